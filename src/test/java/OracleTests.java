import java.util.ArrayList;
import java.util.List;
import java.util.Random;

/** Random problems, told to objects that have had others: every answer beside the one that the oracle reckons another way. */
public final class OracleTests {
    private static final int PROBLEMS = Integer.getInteger("problems", 260);
    private static final Desk d = new Desk("OracleTests", true);
    private static Oracle o;
    private static String told;

    public static void main(String[] args) {
        for (int seed = 0; seed < PROBLEMS; seed++) {
            Random r = new Random(7700 + seed + Integer.getInteger("seeds", 0));
            o = random(r);
            o.settle();
            told = o.text();
            d.due(told, d.problem(told), o.corners.size());
            tellsWhatWasTold();
            corners();
            graph();
            wishes(r);
            plans(r);
            planes();
            shares();
            walks(r);
            laws(r);
        }
        d.end();
    }

    /** Every second problem is a narrow one: small numbers, where PLANES meet in one place and WISHES are alike. */
    private static Oracle random(Random r) {
        boolean isNarrow = r.nextBoolean();
        Oracle o = new Oracle();
        o.n = 1 + r.nextInt(7) * 3 / 7;
        int wishes = r.nextInt(4);
        for (int w = 0; w < wishes; w++) {
            boolean again = isNarrow && w > 0 && r.nextInt(5) == 0;
            o.wishes.add(again ? times(o.wishes.get(w - 1), r.nextBoolean() ? 1 : -1) : sum(r, o.n, isNarrow));
        }
        int keeps = r.nextInt(5);
        for (int k = 0; k < keeps; k++) {
            boolean again = k > 0 && r.nextInt(isNarrow ? 3 : 5) == 0;
            o.keeps.add(again ? o.keeps.get(k - 1) : sum(r, o.n, isNarrow));
            boolean less = r.nextInt(4) > 0;
            o.less.add(less);
            int bound = r.nextInt(isNarrow ? 5 : less ? 30 : 8);
            o.numbers.add(again && r.nextBoolean() ? o.numbers.get(k - 1) : r.nextInt(20) == 0 ? r.nextInt(100) : bound);
        }
        for (int q = 0; q < o.n; q++) {
            if (r.nextInt(3) == 0 || isNarrow) {
                o.box[q] = 1 + r.nextInt(isNarrow ? 3 : 9);
            }
        }
        return o;
    }

    private static int[] times(int[] takes, int many) {
        return new int[] {many * takes[0], many * takes[1], many * takes[2]};
    }

    private static int[] sum(Random r, int n, boolean isNarrow) {
        int[] takes = new int[3];
        for (int q = 0; q < n; q++) {
            int some = r.nextInt(5) == 0 ? -1 - r.nextInt(3) : 1 + r.nextInt(3);
            takes[q] = isNarrow ? r.nextInt(3) - 1 : r.nextInt(4) == 0 ? 0 : some;
        }
        return takes;
    }

    private static void due(String call, long got, long want) {
        d.due(told + " " + call, got, want);
    }

    private static void due(String call, long up, long low, Q want) {
        d.due(told + " " + call, up, low, want.up.longValueExact(), want.low.longValueExact());
    }

    private static void tellsWhatWasTold() {
        due("problemIs(0)", d.x().problemIs(0), o.n);
        due("problemIs(1)", d.x().problemIs(1), o.wishes.size());
        due("problemIs(2)", d.x().problemIs(2), o.keeps.size());
        due("problemIs(3)", d.x().problemIs(3), o.planes.size());
        for (int q = 0; q < 3; q++) {
            due("problemIs box " + q, d.x().problemIs(10 + q), q < o.n ? o.box[q] : -1);
            for (int w = 0; w < 3; w++) {
                boolean is = q < o.n && w < o.wishes.size();
                due("wish " + w + " " + q, d.x().wish(w, q), is ? o.wishes.get(w)[q] : -100000);
            }
        }
        for (int k = 0; k < o.planes.size(); k++) {
            for (int what = 0; what < 4; what++) {
                due("plane " + k + " " + what, d.x().plane(k, what), o.planes.get(k)[what]);
            }
            int kind = k < o.keeps.size() ? (o.less.get(k) ? 0 : 1) : k < o.keeps.size() + o.n ? 2 : 3;
            due("kind of plane " + k, d.x().plane(k, 4), kind);
        }
    }

    private static void corners() {
        int crowded = 0;
        int weak = 0;
        List<Q[]> efficient = new ArrayList<>();
        for (int i = 0; i < o.corners.size(); i++) {
            Q[] c = o.corners.get(i);
            StringBuilder text = new StringBuilder();
            for (int q = 0; q < o.n; q++) {
                due("corner " + i, d.x().corner(i, 2 * q), d.x().corner(i, 2 * q + 1), c[q]);
                text.append(q > 0 ? "," : "").append(c[q]);
            }
            d.due(told + " spelt " + i, d.spelt(i), text.toString());
            due("spelt behind", d.x().spelt(i, text.length()), -2);
            for (int w = 0; w < o.wishes.size(); w++) {
                due("wishAt " + i, d.x().wishAt(i, w, 0), d.x().wishAt(i, w, 1), o.wish(w, c));
            }
            due("tight " + i, d.x().cornerIs(i, 0), o.tight(c));
            due("efficient " + i, d.x().cornerIs(i, 2), o.isEfficient(c) ? 1 : 0);
            due("weak " + i, d.x().cornerIs(i, 3), o.isWeak(c) ? 1 : 0);
            crowded += Integer.bitCount(o.tight(c)) > o.n ? 1 : 0;
            weak += o.isWeak(c) ? 1 : 0;
            if (o.isEfficient(c)) {
                efficient.add(c);
            }
        }
        due("all(0)", d.x().all(0), o.corners.size());
        due("all(2)", d.x().all(2), efficient.size());
        due("all(6)", d.x().all(6), weak);
        due("all(11)", d.x().all(11), crowded);
        due("all(9)", d.x().all(9), efficient.stream().map(OracleTests::values).distinct().count());
        for (int q = 0; q < o.n; q++) {
            if (o.corners.isEmpty()) {
                due("middle", d.x().middle(false, 2 * q), -2);
                due("middle", d.x().middle(true, 2 * q + 1), -2);
            } else {
                due("middle", d.x().middle(false, 2 * q), d.x().middle(false, 2 * q + 1), o.middle(o.corners)[q]);
                due("middle", d.x().middle(true, 2 * q), d.x().middle(true, 2 * q + 1), o.middle(efficient)[q]);
            }
        }
        layers();
    }

    private static String values(Q[] p) {
        StringBuilder row = new StringBuilder();
        for (int w = 0; w < o.wishes.size(); w++) {
            row.append(o.wish(w, p)).append(' ');
        }
        return row.toString();
    }

    private static boolean beats(Q[] a, Q[] b) {
        boolean more = false;
        for (int w = 0; w < o.wishes.size(); w++) {
            int c = o.wish(w, a).compareTo(o.wish(w, b));
            if (c < 0) {
                return false;
            }
            more |= c > 0;
        }
        return more;
    }

    /** The layer of a corner is the longest row of corners, each better than the one ahead. */
    private static int layer(Q[] c) {
        int layer = 0;
        for (Q[] other : o.corners) {
            if (beats(other, c)) {
                layer = Math.max(layer, layer(other) + 1);
            }
        }
        return layer;
    }

    private static void layers() {
        int most = -1;
        for (int i = 0; i < o.corners.size(); i++) {
            int layer = layer(o.corners.get(i));
            due("layer " + i, d.x().cornerIs(i, 4), layer);
            most = Math.max(most, layer);
        }
        due("all(5)", d.x().all(5), most + 1);
    }

    private static void graph() {
        int many = o.corners.size();
        int[][] all = new int[many][many];
        int[][] good = new int[many][many];
        int edges = 0;
        int goodEdges = 0;
        for (int i = 0; i < many; i++) {
            int links = 0;
            int goodLinks = 0;
            for (int j = 0; j < many; j++) {
                Q[] a = o.corners.get(i);
                Q[] b = o.corners.get(j);
                boolean linked = o.areNeighbours(a, b);
                boolean efficient = linked && o.isEfficient(o.between(a, b, Q.of(1, 2)));
                all[i][j] = i == j ? 0 : linked ? 1 : 1000;
                good[i][j] = i == j ? 0 : efficient ? 1 : 1000;
                links += linked ? 1 : 0;
                goodLinks += efficient ? 1 : 0;
                due("edge " + i + " " + j, d.x().edge(i, j), i == j ? -1 : efficient ? 2 : linked ? 1 : 0);
                for (int tenths : new int[] {0, 3, 10}) {
                    boolean is = o.isEfficient(o.between(a, b, Q.of(tenths, 10)));
                    due("along " + i + " " + j + " " + tenths, d.x().along(i, j, tenths), is ? 2 : 1);
                }
                prices(i, j, linked);
            }
            due("neighbours " + i, d.x().cornerIs(i, 1), links);
            due("efficient edges " + i, d.x().cornerIs(i, 5), goodLinks);
            edges += links;
            goodEdges += goodLinks;
        }
        due("all(1)", d.x().all(1), edges / 2);
        due("all(3)", d.x().all(3), goodEdges / 2);
        ways(all, false);
        ways(good, true);
    }

    private static void ways(int[][] steps, boolean byEfficient) {
        int many = steps.length;
        for (int k = 0; k < many; k++) {
            for (int i = 0; i < many; i++) {
                for (int j = 0; j < many; j++) {
                    steps[i][j] = Math.min(steps[i][j], steps[i][k] + steps[k][j]);
                }
            }
        }
        int pieces = 0;
        for (int i = 0; i < many; i++) {
            int far = 0;
            boolean first = o.isEfficient(o.corners.get(i));
            for (int j = 0; j < many; j++) {
                due("reach " + i + " " + j + " " + byEfficient, d.x().reach(i, j, byEfficient),
                        steps[i][j] >= 1000 ? -2 : steps[i][j]);
                far = steps[i][j] > steps[i][far] ? j : far;
                first &= !(j < i && steps[i][j] < 1000);
            }
            pieces += first ? 1 : 0;
            if (!byEfficient) {
                due("far " + i, d.x().far(i, 0), far);
                due("how far " + i, d.x().far(i, 1), steps[i][far]);
            }
        }
        if (byEfficient) {
            due("all(4)", d.x().all(4), pieces);
        }
    }

    private static void prices(int i, int j, boolean linked) {
        Q[] a = o.corners.get(i);
        Q[] b = o.corners.get(j);
        for (int w = 0; w < o.wishes.size(); w++) {
            for (int v = 0; v < o.wishes.size(); v++) {
                String call = "price " + i + " " + j + " " + w + " " + v;
                Q through = o.wish(v, b).minus(o.wish(v, a));
                if (!linked || v == w) {
                    due(call, d.x().price(i, j, w, v, 0), -100000000);
                } else if (through.sign() == 0) {
                    due(call, d.x().price(i, j, w, v, 1), -99999999);
                } else {
                    due(call, d.x().price(i, j, w, v, 0), d.x().price(i, j, w, v, 1),
                            o.wish(w, b).minus(o.wish(w, a)).over(through));
                }
            }
        }
    }

    private static void wishes(Random r) {
        List<Q[]> efficient = o.corners.stream().filter(o::isEfficient).toList();
        int m = o.wishes.size();
        for (int w = 0; w < m; w++) {
            int[] one = new int[3];
            one[w] = 1;
            int[] less = new int[3];
            less[w] = -1;
            if (o.corners.isEmpty()) {
                due("ideal", d.x().ideal(w, 2), -100000000);
            } else {
                due("ideal " + w, d.x().ideal(w, 0), d.x().ideal(w, 1), o.most(one, o.corners));
                due("worst " + w, d.x().ideal(w, 2), d.x().ideal(w, 3), o.most(less, efficient).negate());
            }
            ranked(w, efficient);
            for (int v = 0; v < m; v++) {
                held(w, v, r.nextInt(60) - 20, one);
                held(w, v, r.nextInt(12), one);
            }
        }
        for (int t = 0; t < 6; t++) {
            int[] g = {r.nextInt(10), r.nextInt(10), r.nextInt(10)};
            Q most = o.most(g, o.corners);
            if (most == null) {
                due("best", d.x().best(g[0], g[1], g[2], 2), -100000000);
                due("shadow", d.x().shadow(0, g[0], g[1], g[2], 0), -100000000);
            } else {
                due("best", d.x().best(g[0], g[1], g[2], 0), d.x().best(g[0], g[1], g[2], 1), most);
                int first = 0;
                while (!o.weighted(g, o.corners.get(first)).equals(most)) {
                    first++;
                }
                due("best", d.x().best(g[0], g[1], g[2], 2), first);
                shadows(g, most);
            }
            whole(g);
        }
        orders(new ArrayList<>());
        regret();
    }

    private static void ranked(int w, List<Q[]> efficient) {
        List<Q[]> rows = new ArrayList<>(efficient);
        rows.sort((a, b) -> o.wish(w, b).compareTo(o.wish(w, a)));
        for (int i = 0; i < rows.size(); i++) {
            due("ranked " + w + " " + i, d.x().ranked(w, i), o.corners.indexOf(rows.get(i)));
        }
        due("ranked " + w, d.x().ranked(w, rows.size()), -4);
    }

    private static void held(int w, int v, int k, int[] one) {
        String call = "heldAt " + w + " " + v + " " + k;
        if (w == v) {
            due(call, d.x().heldAt(w, v, k, 0), -100000000);
            return;
        }
        List<Q[]> rows = o.bounds(-1, -1);
        rows.add(o.wishBound(v, Q.of(k)));
        Q most = o.most(one, o.points(rows));
        if (most == null) {
            due(call, d.x().heldAt(w, v, k, 0), -99999999);
        } else {
            due(call, d.x().heldAt(w, v, k, 0), d.x().heldAt(w, v, k, 1), most);
        }
    }

    private static void shadows(int[] g, Q most) {
        for (int k = 0; k < o.keeps.size(); k++) {
            Q then = o.most(g, o.points(o.bounds(-1, k)));
            if (then == null) {
                due("shadow " + k, d.x().shadow(k, g[0], g[1], g[2], 1), -99999999);
            } else {
                due("shadow " + k, d.x().shadow(k, g[0], g[1], g[2], 0), d.x().shadow(k, g[0], g[1], g[2], 1),
                        then.minus(most));
            }
        }
    }

    private static void whole(int[] g) {
        int plans = 0;
        int first = -100000;
        Q most = null;
        for (int p = 0; p < 1000; p++) {
            Q[] point = point(p / 100, p / 10 % 10, p % 10);
            if (point != null && o.allows(point)) {
                plans++;
                Q value = o.weighted(g, point);
                if (most == null || value.compareTo(most) > 0) {
                    most = value;
                    first = p;
                }
            }
        }
        due("whole", d.x().whole(g[0], g[1], g[2], 0), plans);
        due("whole", d.x().whole(g[0], g[1], g[2], 1), most == null ? -100000 : most.up.longValueExact());
        due("whole", d.x().whole(g[0], g[1], g[2], 2), first);
    }

    private static Q[] point(int... of) {
        Q[] p = new Q[o.n];
        for (int q = 0; q < 3; q++) {
            if (q < o.n) {
                p[q] = Q.of(of[q]);
            } else if (of[q] != 0) {
                return null;
            }
        }
        return p;
    }

    private static void orders(List<Integer> order) {
        if (order.size() < o.wishes.size()) {
            for (int w = 0; w < o.wishes.size(); w++) {
                if (!order.contains(w)) {
                    order.add(w);
                    orders(order);
                    order.remove(order.size() - 1);
                }
            }
            return;
        }
        int number = 0;
        List<Q[]> left = o.corners;
        for (int w : order) {
            number = 10 * number + w;
            int[] one = new int[3];
            one[w] = 1;
            Q most = o.most(one, left);
            left = left.stream().filter(c -> o.wish(w, c).equals(most)).toList();
        }
        int due = order.isEmpty() ? -1 : left.isEmpty() ? -2 : o.corners.indexOf(left.get(0));
        due("behind " + order, d.x().behind(number), due);
    }

    private static void regret() {
        Q least = null;
        int first = -2;
        for (int i = 0; i < o.corners.size(); i++) {
            Q regret = Q.ZERO;
            for (int w = 0; w < o.wishes.size(); w++) {
                int[] one = new int[3];
                one[w] = 1;
                Q less = o.most(one, o.corners).minus(o.wish(w, o.corners.get(i)));
                regret = less.compareTo(regret) > 0 ? less : regret;
            }
            if (least == null || regret.compareTo(least) < 0) {
                least = regret;
                first = i;
            }
        }
        due("regret", d.x().regret(2), first);
        if (least != null) {
            due("regret", d.x().regret(0), d.x().regret(1), least);
        }
    }

    private static void plans(Random r) {
        for (int t = 0; t < 12; t++) {
            int x = r.nextInt(10);
            int y = o.n > 1 || t == 0 ? r.nextInt(10) : 0;
            int z = o.n > 2 || t == 1 ? r.nextInt(10) : 0;
            plan(x, y, z);
            plan(x / 3, y / 3, z / 3);
        }
    }

    private static void plan(int x, int y, int z) {
        Q[] p = point(x, y, z);
        String call = x + " " + y + " " + z;
        if (p == null || !o.allows(p)) {
            due("plan " + call, d.x().plan(x, y, z), p == null ? -1 : 0);
            due("gain " + call, d.x().gain(x, y, z, 0), p == null ? -1 : -2);
            due("better " + call, d.x().better(x, y, z, 1), p == null ? -1 : -2);
            return;
        }
        due("plan " + call, d.x().plan(x, y, z), o.isEfficient(p) ? 2 : 1);
        Q[] better = o.better(p);
        int[] ones = {1, 1, 1};
        due("gain " + call, d.x().gain(x, y, z, 0), d.x().gain(x, y, z, 1),
                o.weighted(ones, better).minus(o.weighted(ones, p)));
        for (int q = 0; q < o.n; q++) {
            due("better " + call, d.x().better(x, y, z, 2 * q), d.x().better(x, y, z, 2 * q + 1), better[q]);
        }
    }

    private static void planes() {
        int faces = 0;
        int goodFaces = 0;
        int needed = 0;
        for (int k = 0; k < o.planes.size(); k++) {
            int plane = k;
            List<Q[]> on = o.corners.stream().filter(c -> o.over(plane, c).sign() == 0).toList();
            boolean face = o.n == 3 && on.size() >= 3 && !o.areInLine(on);
            boolean good = face && o.isEfficient(o.middle(on));
            due("face " + k, d.x().face(k, 0), on.size());
            due("face " + k, d.x().face(k, 1), face ? 1 : 0);
            due("face " + k, d.x().face(k, 2), good ? 1 : 0);
            faces += face ? 1 : 0;
            goodFaces += good ? 1 : 0;
            for (int i = 0; i < o.corners.size(); i++) {
                due("slack " + i + " " + k, d.x().slack(i, k, 0), d.x().slack(i, k, 1),
                        o.over(k, o.corners.get(i)).abs());
            }
            if (k < o.keeps.size()) {
                List<Q[]> then = o.points(o.bounds(k, -1));
                boolean more = then.size() != o.corners.size();
                for (int i = 0; i < then.size() && !more; i++) {
                    more = Oracle.compare(then.get(i), o.corners.get(i)) != 0;
                }
                due("needed " + k, d.x().needed(k), more ? 1 : 0);
                needed += more ? 1 : 0;
            }
        }
        due("all(7)", d.x().all(7), faces);
        due("all(8)", d.x().all(8), goodFaces);
        due("all(10)", d.x().all(10), needed);
        if (o.n == 2) {
            due("area", d.x().area(0), d.x().area(1), o.area());
        } else {
            due("area", d.x().area(0), -3);
        }
    }

    private static void shares() {
        if (o.wishes.size() != 2) {
            due("turn", d.x().turn(200), -3);
            due("weights", d.x().weights(99, 0), -3);
            return;
        }
        List<Q> turns = o.turns();
        due("turn(200)", d.x().turn(200), turns.size());
        for (int t = 0; t < turns.size(); t++) {
            due("turn " + t, d.x().turn(2 * t), d.x().turn(2 * t + 1), turns.get(t));
        }
        due("turn", d.x().turn(2 * turns.size()), -2);
        for (int i = 0; i < o.corners.size(); i++) {
            Q least = null;
            Q greatest = null;
            for (Q share : o.crossings()) {
                if (o.isBestAt(share, o.corners.get(i))) {
                    least = least == null ? share : least;
                    greatest = share;
                }
            }
            if (least == null) {
                due("weights " + i, d.x().weights(i, 0), -2);
            } else {
                due("weights " + i, d.x().weights(i, 0), d.x().weights(i, 1), least);
                due("weights " + i, d.x().weights(i, 2), d.x().weights(i, 3), greatest);
            }
        }
    }

    private static void walks(Random r) {
        for (int t = 0; t < 3; t++) {
            int[] g = {r.nextInt(10), r.nextInt(10), r.nextInt(10)};
            for (int i = 0; i < o.corners.size(); i++) {
                int here = i;
                int steps = -1;
                int next = i;
                while (next >= 0) {
                    here = next;
                    next = -1;
                    Q most = o.weighted(g, o.corners.get(here));
                    for (int j = 0; j < o.corners.size(); j++) {
                        Q value = o.weighted(g, o.corners.get(j));
                        if (d.x().edge(here, j) > 0 && value.compareTo(most) > 0) {
                            most = value;
                            next = j;
                        }
                    }
                    steps++;
                }
                due("walk " + i, d.x().walk(i, g[0], g[1], g[2], 0), here);
                due("steps " + i, d.x().walk(i, g[0], g[1], g[2], 1), steps);
            }
        }
    }

    private static void laws(Random r) {
        for (int t = 0; t < 8; t++) {
            int rules = 1 + r.nextInt(4);
            LawTree[] worths = new LawTree[rules];
            LawTree[] conditions = new LawTree[rules];
            StringBuilder text = new StringBuilder();
            for (int k = 0; k < rules; k++) {
                worths[k] = r.nextInt(3) > 0 ? LawTree.sum(r, 3) : null;
                conditions[k] = LawTree.condition(r, 3);
                text.append(k > 0 ? ";" : "").append(worths[k] == null ? "x" : "v" + worths[k].text());
                text.append("(").append(conditions[k].text()).append(")");
            }
            if (text.length() <= 240 && isShallow(text.toString())) {
                d.due(told + " " + text, d.law(text.toString()), rules);
                chosen(text.toString(), worths, conditions);
            }
        }
    }

    /** Six ( [ ! may be open in one another; counted here as if a ! were open till the RULE ends. */
    private static boolean isShallow(String text) {
        int open = 0;
        for (char sign : text.toCharArray()) {
            open = sign == ';' ? 0 : open + ("([!".indexOf(sign) >= 0 ? 1 : ")]".indexOf(sign) >= 0 ? -1 : 0);
            if (open > 6) {
                return false;
            }
        }
        return true;
    }

    private static void chosen(String law, LawTree[] worths, LawTree[] conditions) {
        int chosen = -100000;
        int most = -100000;
        for (int i = 0; i < o.corners.size(); i++) {
            if (o.isEfficient(o.corners.get(i))) {
                int[] letters = letters(i);
                boolean refused = false;
                Integer worth = null;
                for (int k = 0; k < worths.length; k++) {
                    boolean holds = holds(conditions[k], letters);
                    refused |= worths[k] == null && holds;
                    if (worths[k] != null && holds && worth == null) {
                        worth = worth(worths[k], letters);
                    }
                }
                int is = worth == null ? 0 : worth;
                if (!refused && is > most) {
                    most = is;
                    chosen = i;
                }
            }
        }
        due(law + " chosen", d.x().chosen(0), chosen);
        due(law + " worth", d.x().chosen(1), most);
    }

    private static boolean holds(LawTree condition, int[] letters) {
        try {
            return condition.holds(letters);
        } catch (LawTree.Divided refused) {
            return false;
        }
    }

    private static int worth(LawTree sum, int[] letters) {
        try {
            return Math.max(-9999, Math.min(9999, sum.value(letters)));
        } catch (LawTree.Divided refused) {
            return 0;
        }
    }

    private static int[] letters(int i) {
        Q[] c = o.corners.get(i);
        int[] letters = new int[7];
        letters[0] = i;
        for (int w = 0; w < o.wishes.size(); w++) {
            letters[1 + w] = (int) o.wish(w, c).floor();
        }
        letters[4] = Integer.bitCount(o.tight(c));
        for (Q[] other : o.corners) {
            if (o.areNeighbours(c, other)) {
                letters[5]++;
                letters[6] += o.isEfficient(other) ? 1 : 0;
            }
        }
        return letters;
    }
}
