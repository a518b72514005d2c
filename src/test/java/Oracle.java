import java.util.ArrayList;
import java.util.List;
import java.util.TreeSet;

/**
 * The document's terms reckoned a second time, by other ways than the program's: points by Gauss's elimination,
 * what is EFFICIENT by looking for weights above 0 (Fourier and Motzkin), shares by trying every crossing.
 */
final class Oracle {
    int n = 1;
    List<int[]> wishes = new ArrayList<>();
    List<int[]> keeps = new ArrayList<>();
    List<Boolean> less = new ArrayList<>();
    List<Integer> numbers = new ArrayList<>();
    int[] box = {9, 9, 9};

    List<Q[]> corners;
    /** Planes as sum, number; -1 if the sum may be no more, 1 if no less. */
    List<int[]> planes;
    List<Integer> senses;

    void settle() {
        planes = new ArrayList<>();
        senses = new ArrayList<>();
        for (int k = 0; k < keeps.size(); k++) {
            int[] s = keeps.get(k);
            planes.add(new int[] {s[0], s[1], s[2], numbers.get(k)});
            senses.add(less.get(k) ? -1 : 1);
        }
        for (int kind = 0; kind < 2; kind++) {
            for (int q = 0; q < n; q++) {
                int[] p = new int[4];
                p[q] = 1;
                p[3] = kind == 0 ? 0 : box[q];
                planes.add(p);
                senses.add(kind == 0 ? 1 : -1);
            }
        }
        corners = points(bounds(-1, -1));
    }

    /** Rows a1 .. an, r: the sum no more than r. */
    List<Q[]> bounds(int without, int raised) {
        List<Q[]> rows = new ArrayList<>();
        for (int k = 0; k < planes.size(); k++) {
            if (k != without) {
                int[] p = planes.get(k);
                Q sign = Q.of(-senses.get(k));
                Q[] row = new Q[n + 1];
                for (int q = 0; q < n; q++) {
                    row[q] = sign.times(Q.of(p[q]));
                }
                row[n] = sign.times(Q.of(p[3] + (k == raised ? 1 : 0)));
                rows.add(row);
            }
        }
        return rows;
    }

    Q[] wishBound(int w, Q least) {
        Q[] row = new Q[n + 1];
        for (int q = 0; q < n; q++) {
            row[q] = Q.of(-wishes.get(w)[q]);
        }
        row[n] = least.negate();
        return row;
    }

    static Q sum(Q[] row, Q[] point) {
        Q all = Q.ZERO;
        for (int q = 0; q < point.length; q++) {
            all = all.plus(row[q].times(point[q]));
        }
        return all;
    }

    Q sum(int[] takes, Q[] point) {
        Q all = Q.ZERO;
        for (int q = 0; q < n; q++) {
            all = all.plus(Q.of(takes[q]).times(point[q]));
        }
        return all;
    }

    static int compare(Q[] a, Q[] b) {
        for (int q = 0; q < a.length; q++) {
            int c = a[q].compareTo(b[q]);
            if (c != 0) {
                return c;
            }
        }
        return 0;
    }

    List<Q[]> points(List<Q[]> rows) {
        TreeSet<Q[]> found = new TreeSet<>(Oracle::compare);
        choose(rows, 0, new ArrayList<>(), found);
        return new ArrayList<>(found);
    }

    private void choose(List<Q[]> rows, int from, List<Q[]> chosen, TreeSet<Q[]> found) {
        if (chosen.size() == n) {
            Q[] point = solve(chosen);
            if (point != null && rows.stream().allMatch(r -> sum(r, point).compareTo(r[n]) <= 0)) {
                found.add(point);
            }
            return;
        }
        for (int i = from; i < rows.size(); i++) {
            chosen.add(rows.get(i));
            choose(rows, i + 1, chosen, found);
            chosen.remove(chosen.size() - 1);
        }
    }

    private Q[] solve(List<Q[]> rows) {
        Q[][] m = new Q[n][];
        for (int i = 0; i < n; i++) {
            m[i] = rows.get(i).clone();
        }
        if (eliminate(m, n) < n) {
            return null;
        }
        Q[] point = new Q[n];
        for (int i = 0; i < n; i++) {
            point[i] = m[i][n];
        }
        return point;
    }

    /** Gauss and Jordan; the rank. */
    static int eliminate(Q[][] m, int columns) {
        int rank = 0;
        for (int c = 0; c < columns && rank < m.length; c++) {
            int pivot = rank;
            while (pivot < m.length && m[pivot][c].sign() == 0) {
                pivot++;
            }
            if (pivot == m.length) {
                continue;
            }
            Q[] row = m[pivot];
            m[pivot] = m[rank];
            m[rank] = row;
            Q lead = row[c];
            for (int j = 0; j < row.length; j++) {
                row[j] = row[j].over(lead);
            }
            for (int i = 0; i < m.length; i++) {
                if (i != rank && m[i][c].sign() != 0) {
                    Q times = m[i][c];
                    for (int j = 0; j < row.length; j++) {
                        m[i][j] = m[i][j].minus(times.times(row[j]));
                    }
                }
            }
            rank++;
        }
        return rank;
    }

    boolean allows(Q[] p) {
        for (int k = 0; k < planes.size(); k++) {
            int over = over(k, p).sign();
            if (over * senses.get(k) < 0) {
                return false;
            }
        }
        return true;
    }

    Q over(int k, Q[] p) {
        return sum(planes.get(k), p).minus(Q.of(planes.get(k)[3]));
    }

    int tight(Q[] p) {
        int bits = 0;
        for (int k = 0; k < planes.size(); k++) {
            if (over(k, p).sign() == 0) {
                bits |= 1 << k;
            }
        }
        return bits;
    }

    int rankAt(Q[] p) {
        List<Q[]> rows = new ArrayList<>();
        for (int k = 0; k < planes.size(); k++) {
            if (over(k, p).sign() == 0) {
                Q[] row = new Q[n];
                for (int q = 0; q < n; q++) {
                    row[q] = Q.of(planes.get(k)[q]);
                }
                rows.add(row);
            }
        }
        return eliminate(rows.toArray(new Q[0][]), n);
    }

    Q[] between(Q[] a, Q[] b, Q share) {
        Q[] p = new Q[n];
        for (int q = 0; q < n; q++) {
            p[q] = a[q].plus(b[q].minus(a[q]).times(share));
        }
        return p;
    }

    Q[] middle(List<Q[]> of) {
        Q[] p = new Q[n];
        for (int q = 0; q < n; q++) {
            p[q] = Q.ZERO;
            for (Q[] c : of) {
                p[q] = p[q].plus(c[q]);
            }
            p[q] = p[q].over(Q.of(of.size()));
        }
        return p;
    }

    boolean areNeighbours(Q[] a, Q[] b) {
        return compare(a, b) != 0 && rankAt(between(a, b, Q.of(1, 2))) == n - 1;
    }

    /** EFFICIENT: some weights, all above 0, by which no corner has more. */
    boolean isEfficient(Q[] p) {
        if (wishes.isEmpty()) {
            return true;
        }
        Q least = leastWeight(p);
        return least != null && least.sign() > 0;
    }

    /** WEAK: some weights, none below 0 and not all 0, by which no corner has more. */
    boolean isWeak(Q[] p) {
        if (wishes.isEmpty()) {
            return true;
        }
        Q least = leastWeight(p);
        return least != null && least.sign() >= 0;
    }

    /** The most that the least weight can be, the weights adding up to 1; null if there are no such weights. */
    private Q leastWeight(Q[] p) {
        int m = wishes.size();
        // Variables: weights 0 .. m-2, then the least weight; the last weight is 1 less the others.
        List<Q[]> rows = new ArrayList<>();
        for (int w = 0; w < m; w++) {
            Q[] weight = new Q[m];
            for (int v = 0; v < m - 1; v++) {
                weight[v] = w == m - 1 ? Q.ONE : v == w ? Q.of(-1) : Q.ZERO;
            }
            weight[m - 1] = Q.ONE;
            rows.add(with(weight, w == m - 1 ? Q.ONE : Q.ZERO));
        }
        for (Q[] c : corners) {
            Q[] row = new Q[m];
            Q last = sum(wishes.get(m - 1), c).minus(sum(wishes.get(m - 1), p));
            for (int v = 0; v < m - 1; v++) {
                row[v] = sum(wishes.get(v), c).minus(sum(wishes.get(v), p)).minus(last);
            }
            row[m - 1] = Q.ZERO;
            rows.add(with(row, last.negate()));
        }
        for (int v = 0; v < m - 1; v++) {
            rows = without(rows, v);
        }
        Q most = Q.ONE;
        for (Q[] row : rows) {
            int sign = row[m - 1].sign();
            if (sign == 0 && row[m].sign() < 0) {
                return null;
            }
            if (sign > 0) {
                Q bound = row[m].over(row[m - 1]);
                most = bound.compareTo(most) < 0 ? bound : most;
            }
        }
        return most;
    }

    private static Q[] with(Q[] row, Q bound) {
        Q[] longer = java.util.Arrays.copyOf(row, row.length + 1);
        longer[row.length] = bound;
        return longer;
    }

    private static List<Q[]> without(List<Q[]> rows, int v) {
        TreeSet<Q[]> left = new TreeSet<>(Oracle::compare);
        for (Q[] a : rows) {
            if (a[v].sign() == 0) {
                left.add(a);
            }
            for (Q[] b : rows) {
                if (a[v].sign() > 0 && b[v].sign() < 0) {
                    Q[] row = new Q[a.length];
                    for (int j = 0; j < row.length; j++) {
                        row[j] = a[j].over(a[v]).minus(b[j].over(b[v]));
                    }
                    left.add(row);
                }
            }
        }
        return new ArrayList<>(left);
    }

    Q wish(int w, Q[] p) {
        return sum(wishes.get(w), p);
    }

    Q weighted(int[] weights, Q[] p) {
        Q all = Q.ZERO;
        for (int w = 0; w < wishes.size(); w++) {
            all = all.plus(Q.of(weights[w]).times(wish(w, p)));
        }
        return all;
    }

    /** The most of a sum of wishes at these points, null for no points. */
    Q most(int[] weights, List<Q[]> points) {
        Q most = null;
        for (Q[] p : points) {
            Q value = weighted(weights, p);
            most = most == null || value.compareTo(most) > 0 ? value : most;
        }
        return most;
    }

    /** The PLAN that has the GAIN of a PLAN. */
    Q[] better(Q[] p) {
        List<Q[]> rows = bounds(-1, -1);
        for (int w = 0; w < wishes.size(); w++) {
            rows.add(wishBound(w, wish(w, p)));
        }
        int[] ones = {1, 1, 1};
        Q[] first = null;
        for (Q[] c : points(rows)) {
            if (first == null || weighted(ones, c).compareTo(weighted(ones, first)) > 0) {
                first = c;
            }
        }
        return first;
    }

    /** Shares at which two corners have as much. */
    TreeSet<Q> crossings() {
        TreeSet<Q> shares = new TreeSet<>();
        for (Q[] a : corners) {
            for (Q[] b : corners) {
                Q first = wish(0, a).minus(wish(0, b));
                Q second = wish(1, a).minus(wish(1, b));
                if (first.compareTo(second) != 0) {
                    Q share = second.negate().over(first.minus(second));
                    if (share.sign() >= 0 && share.compareTo(Q.ONE) <= 0) {
                        shares.add(share);
                    }
                }
            }
        }
        shares.add(Q.ZERO);
        shares.add(Q.ONE);
        return shares;
    }

    Q shared(Q share, Q[] p) {
        return share.times(wish(0, p)).plus(Q.ONE.minus(share).times(wish(1, p)));
    }

    boolean isBestAt(Q share, Q[] p) {
        for (Q[] c : corners) {
            if (shared(share, c).compareTo(shared(share, p)) > 0) {
                return false;
            }
        }
        return true;
    }

    /** The wishes of what is best at a share, as a text. */
    String bestAt(Q share) {
        TreeSet<String> rows = new TreeSet<>();
        for (Q[] c : corners) {
            if (isBestAt(share, c)) {
                rows.add(wish(0, c) + " " + wish(1, c));
            }
        }
        return rows.toString();
    }

    List<Q> turns() {
        List<Q> shares = new ArrayList<>(crossings());
        List<Q> turns = new ArrayList<>();
        Q half = Q.of(1, 2);
        for (int i = 1; i + 1 < shares.size(); i++) {
            Q ahead = shares.get(i - 1).plus(shares.get(i)).times(half);
            Q behind = shares.get(i + 1).plus(shares.get(i)).times(half);
            if (!bestAt(ahead).equals(bestAt(behind))) {
                turns.add(shares.get(i));
            }
        }
        return turns;
    }

    /** Twice the area by the hull of the corners (Andrew's chain). */
    Q area() {
        List<Q[]> hull = new ArrayList<>();
        for (int side = 0; side < 2; side++) {
            List<Q[]> chain = new ArrayList<>();
            for (int i = 0; i < corners.size(); i++) {
                Q[] c = corners.get(side == 0 ? i : corners.size() - 1 - i);
                while (chain.size() >= 2
                        && cross(chain.get(chain.size() - 2), chain.get(chain.size() - 1), c).sign() <= 0) {
                    chain.remove(chain.size() - 1);
                }
                chain.add(c);
            }
            hull.addAll(chain);
        }
        Q twice = Q.ZERO;
        for (int i = 0; i < hull.size(); i++) {
            Q[] a = hull.get(i);
            Q[] b = hull.get((i + 1) % hull.size());
            twice = twice.plus(a[0].times(b[1]).minus(a[1].times(b[0])));
        }
        return twice.abs();
    }

    private static Q cross(Q[] o, Q[] a, Q[] b) {
        return a[0].minus(o[0]).times(b[1].minus(o[1])).minus(a[1].minus(o[1]).times(b[0].minus(o[0])));
    }

    boolean areInLine(List<Q[]> points) {
        Q[][] ways = new Q[Math.max(0, points.size() - 1)][];
        for (int i = 1; i < points.size(); i++) {
            ways[i - 1] = new Q[n];
            for (int q = 0; q < n; q++) {
                ways[i - 1][q] = points.get(i)[q].minus(points.get(0)[q]);
            }
        }
        return eliminate(ways, n) < 2;
    }

    String text() {
        StringBuilder text = new StringBuilder("of:").append(n);
        for (int[] w : wishes) {
            text.append(";wish:").append(sumText(w));
        }
        for (int k = 0; k < keeps.size(); k++) {
            text.append(";keep:").append(sumText(keeps.get(k))).append(less.get(k) ? '<' : '>').append(numbers.get(k));
        }
        for (int q = 0; q < n; q++) {
            if (box[q] != 9) {
                text.append(";box:").append((char) ('x' + q)).append('<').append(box[q]);
            }
        }
        return text.toString();
    }

    private static String sumText(int[] takes) {
        StringBuilder text = new StringBuilder();
        for (int q = 0; q < 3; q++) {
            int many = Math.abs(takes[q]);
            if (many > 0) {
                text.append(takes[q] < 0 ? "-" : text.length() > 0 ? "+" : "");
                text.append(many > 1 ? String.valueOf(many) : "").append((char) ('x' + q));
            }
        }
        return text.length() > 0 ? text.toString() : "x-x";
    }
}
