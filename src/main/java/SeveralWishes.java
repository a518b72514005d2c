/**
 * Linear programs with several wishes at once. What each call promises stands in ../shared/DOC.md;
 * the words that stand there in capitals are the names here.
 */
public final class SeveralWishes {

    public static final int NONE = -1;

    private static final int MISSING = -2;
    private static final int UNFIT = -3;
    private static final int TOO_FEW = -4;
    private static final int NO_SUCH = -100000;
    private static final int NO_SUCH_WHAT = -100001;
    private static final long NO_VALUE = -99999999L;
    private static final long NO_SUCH_VALUE = -100000000L;

    private static final int TAPE = 260;
    private static final int FED = 20;
    private static final int LAW_BYTES = 240;
    private static final int PROBLEM_BYTES = 200;
    private static final int CHECK_BYTES = 60;
    private static final int NOT_THERE = 255;

    private static final int AXES = 3;
    private static final int WISHES = 3;
    private static final int KEEPS = 4;
    private static final int MOST_TAKEN = 3;
    private static final int BOX = 9;
    private static final int HELD_BOUND = 999;
    private static final int LINE = 64;
    private static final int ALL_TURNS = 200;
    private static final int TURN_PARTS = 100;

    private final int[] tape = new int[TAPE];
    private int onTape = 0;
    private Problem told = new Problem();
    private Problem draft = new Problem();
    private final Problem kept = new Problem();
    private boolean isKept = false;
    private final Reader reader = new Reader();
    private final Law rules = new Law();
    private final Space space = new Space();
    private final Figure figure = new Figure(told, space);
    private final Shares shares = new Shares();
    private final Fraction answer = new Fraction();
    private final Fraction other = new Fraction();
    private final int[] goal = new int[AXES];
    private final int[] places = new int[WISHES];
    private final int[] line = new int[LINE];
    private int lineEnd = 0;

    public SeveralWishes() {
        figure.build(told);
    }

    public int feed(int a, int b, int c, int d, int e) {
        if (onTape + FED > TAPE) {
            return NONE;
        }
        put(a);
        put(b);
        put(c);
        put(d);
        put(e);
        return onTape;
    }

    private void put(int four) {
        for (int shift = 24; shift >= 0 && onTape < TAPE; shift -= 8) {
            tape[onTape] = (four >>> shift) & 255;
            onTape++;
        }
    }

    public int law(int n) {
        if (n < 1 || n > LAW_BYTES || n > onTape) {
            return NONE;
        }
        onTape = 0;
        return rules.replace(tape, n);
    }

    public int problem(int n) {
        if (n < 1 || n > PROBLEM_BYTES || n > onTape) {
            return NONE;
        }
        onTape = 0;
        int fault = reader.read(tape, n, draft);
        if (fault != 0) {
            return fault;
        }
        Problem before = told;
        told = draft;
        draft = before;
        figure.build(told);
        return figure.corners;
    }

    public int problemIs(int what) {
        switch (what) {
            case 0:
                return told.quantities;
            case 1:
                return told.wishes;
            case 2:
                return told.keeps;
            case 3:
                return told.planes();
            default:
                return what >= 10 && what < 10 + told.quantities ? told.box[what - 10] : NONE;
        }
    }

    public int wish(int w, int q) {
        if (!isWish(w) || q < 0 || q >= told.quantities) {
            return NO_SUCH;
        }
        return told.wishTakes[AXES * w + q];
    }

    public int plane(int k, int what) {
        if (!isPlane(k) || what < 0 || what > 4) {
            return NO_SUCH;
        }
        if (what == 3) {
            return told.number(k);
        }
        return what == 4 ? told.kind(k) : told.takes(k, what);
    }

    public long corner(int i, int what) {
        if (i < 0 || !isPartOfPlan(what)) {
            return NONE;
        }
        if (i >= figure.corners) {
            return TOO_FEW;
        }
        return part(figure.points.at(i, what / 2), figure.points.d[i], what % 2);
    }

    public long wishAt(int i, int w, int what) {
        if (!isCorner(i) || !isWish(w) || !isPart(what)) {
            return NO_SUCH_VALUE;
        }
        return part(figure.points.value(i, told.wishTakes, AXES * w), figure.points.d[i], what);
    }

    public int cornerIs(int i, int what) {
        if (i < 0 || what < 0 || what > 5) {
            return NONE;
        }
        if (i >= figure.corners) {
            return TOO_FEW;
        }
        figure.judge();
        switch (what) {
            case 0:
                return figure.tight[i];
            case 1:
                return figure.linksOf(i, Figure.EDGE);
            case 2:
                return figure.isEfficient(i) ? 1 : 0;
            case 3:
                return figure.isWeak(i) ? 1 : 0;
            case 4:
                return figure.layer[i];
            default:
                return figure.linksOf(i, Figure.EFFICIENT_EDGE);
        }
    }

    public int edge(int i, int j) {
        if (!isCorner(i) || !isCorner(j) || i == j) {
            return NONE;
        }
        figure.judge();
        return figure.link[i][j];
    }

    public int all(int what) {
        if (what < 0 || what > 11) {
            return NONE;
        }
        figure.judge();
        switch (what) {
            case 0:
                return figure.corners;
            case 1:
                return figure.links(Figure.EDGE);
            case 2:
                return figure.efficientCorners();
            case 3:
                return figure.links(Figure.EFFICIENT_EDGE);
            case 4:
                return figure.pieces();
            case 5:
                return figure.layers();
            case 6:
                return figure.weakCorners();
            case 7:
                return figure.faces(false);
            case 8:
                return figure.faces(true);
            case 9:
                return figure.efficientValues();
            case 10:
                return neededKeeps();
            default:
                return figure.crowdedCorners();
        }
    }

    public long weights(int i, int what) {
        if (i < 0 || what < 0 || what > 3) {
            return NONE;
        }
        if (told.wishes != 2) {
            return UNFIT;
        }
        if (i >= figure.corners) {
            return TOO_FEW;
        }
        if (!shares.findFor(figure, i)) {
            return MISSING;
        }
        return (what < 2 ? shares.least : shares.greatest).part(what % 2);
    }

    public long ideal(int w, int what) {
        if (!isWish(w) || what < 0 || what > 3 || figure.corners == 0) {
            return NO_SUCH_VALUE;
        }
        figure.judge();
        int i = what < 2 ? figure.points.firstWithMost(told.wishTakes, AXES * w) : figure.firstWithLeast(w);
        if (i < 0) {
            return NO_SUCH_VALUE;
        }
        return part(figure.points.value(i, told.wishTakes, AXES * w), figure.points.d[i], what % 2);
    }

    public long best(int a, int b, int c, int what) {
        if (!areWeights(a, b, c) || what < 0 || what > 2 || figure.corners == 0) {
            return NO_SUCH_VALUE;
        }
        aim(a, b, c);
        int i = figure.points.firstWithMost(goal, 0);
        if (i < 0 || what == 2) {
            return i;
        }
        return part(figure.points.value(i, goal, 0), figure.points.d[i], what);
    }

    public int behind(int order) {
        if (!readOrder(order)) {
            return NONE;
        }
        if (figure.corners == 0) {
            return MISSING;
        }
        int first = 0;
        for (int i = 1; i < figure.corners; i++) {
            if (isAhead(i, first)) {
                first = i;
            }
        }
        return first;
    }

    /** Takes the digits apart; false if they are not each WISH once. */
    private boolean readOrder(int order) {
        int rest = order;
        int seen = 0;
        for (int place = told.wishes - 1; place >= 0; place--) {
            int digit = rest % 10;
            rest /= 10;
            if (!isWish(digit)) {
                return false;
            }
            places[place] = digit;
            seen |= 1 << digit;
        }
        return told.wishes > 0 && rest == 0 && seen == told.everyWish();
    }

    private boolean isAhead(int i, int j) {
        for (int place = 0; place < told.wishes; place++) {
            long more = figure.lead(i, j, places[place]);
            if (more != 0) {
                return more > 0;
            }
        }
        return false;
    }

    public long heldAt(int w, int v, int k, int what) {
        if (!isWish(w) || !isWish(v) || w == v || k < -HELD_BOUND || k > HELD_BOUND || !isPart(what)) {
            return NO_SUCH_VALUE;
        }
        space.fill(told, NONE, NONE);
        space.boundWish(told, v, k);
        space.find();
        int p = space.points.firstWithMost(told.wishTakes, AXES * w);
        return p < 0 ? NO_VALUE : part(space.points.value(p, told.wishTakes, AXES * w), space.points.d[p], what);
    }

    public int plan(int x, int y, int z) {
        if (!isWholePlan(x, y, z)) {
            return NONE;
        }
        if (!told.allows(x, y, z, 1)) {
            return 0;
        }
        return figure.isEfficientAt(told.tightAt(x, y, z, 1)) ? 2 : 1;
    }

    public long gain(int x, int y, int z, int what) {
        if (!isWholePlan(x, y, z) || !isPart(what)) {
            return NONE;
        }
        int p = betterPoint(x, y, z);
        if (p < 0) {
            return MISSING;
        }
        int now = goal[0] * x + goal[1] * y + goal[2] * z;
        return part(space.points.value(p, goal, 0) - now * space.points.d[p], space.points.d[p], what);
    }

    public long better(int x, int y, int z, int what) {
        if (!isWholePlan(x, y, z) || !isPartOfPlan(what)) {
            return NONE;
        }
        int p = betterPoint(x, y, z);
        return p < 0 ? MISSING : part(space.points.at(p, what / 2), space.points.d[p], what % 2);
    }

    /** The point of the space with the GAIN of an ALLOWED PLAN, the goal being all WISHES together. */
    private int betterPoint(int x, int y, int z) {
        if (!told.allows(x, y, z, 1)) {
            return NONE;
        }
        space.fill(told, NONE, NONE);
        for (int w = 0; w < told.wishes; w++) {
            int at = AXES * w;
            int now = told.wishTakes[at] * x + told.wishTakes[at + 1] * y + told.wishTakes[at + 2] * z;
            space.boundWish(told, w, now);
        }
        space.find();
        aim(1, 1, 1);
        return space.points.firstWithMost(goal, 0);
    }

    public int face(int k, int what) {
        if (!isPlane(k) || what < 0 || what > 2) {
            return NONE;
        }
        if (what == 0) {
            return figure.cornersOn(k);
        }
        return figure.isFace(k) && (what == 1 || figure.isEfficientFace(k)) ? 1 : 0;
    }

    public int needed(int k) {
        if (k < 0 || k >= told.keeps) {
            return NONE;
        }
        space.fill(told, k, NONE);
        space.find();
        Points at = space.points;
        for (int p = 0; p < at.many; p++) {
            if (!told.holds(k, at.x[p], at.y[p], at.z[p], at.d[p])) {
                return 1;
            }
        }
        return 0;
    }

    private int neededKeeps() {
        int needed = 0;
        for (int k = 0; k < told.keeps; k++) {
            needed += needed(k);
        }
        return needed;
    }

    public long turn(int what) {
        if (what != ALL_TURNS && (what < 0 || what >= TURN_PARTS)) {
            return NONE;
        }
        if (told.wishes != 2) {
            return UNFIT;
        }
        shares.findTurns(figure);
        if (what == ALL_TURNS) {
            return shares.turns;
        }
        int i = what / 2;
        if (i >= shares.turns) {
            return MISSING;
        }
        return what % 2 == 0 ? shares.up[i] : shares.low[i];
    }

    public int whole(int a, int b, int c, int what) {
        if (!areWeights(a, b, c) || what < 0 || what > 2) {
            return NO_SUCH;
        }
        aim(a, b, c);
        int plans = 0;
        int most = 0;
        int first = 0;
        for (int place = 0; place < 1000; place++) {
            int x = place / 100;
            int y = place / 10 % 10;
            int z = place % 10;
            if (isWholePlan(x, y, z) && told.allows(x, y, z, 1)) {
                int value = goal[0] * x + goal[1] * y + goal[2] * z;
                if (plans == 0 || value > most) {
                    most = value;
                    first = place;
                }
                plans++;
            }
        }
        if (what == 0) {
            return plans;
        }
        if (plans == 0) {
            return NO_SUCH;
        }
        return what == 1 ? most : first;
    }

    public long shadow(int k, int a, int b, int c, int what) {
        if (k < 0 || k >= told.keeps || !areWeights(a, b, c) || !isPart(what) || figure.corners == 0) {
            return NO_SUCH_VALUE;
        }
        aim(a, b, c);
        int i = figure.points.firstWithMost(goal, 0);
        space.fill(told, NONE, k);
        space.find();
        int p = space.points.firstWithMost(goal, 0);
        if (i < 0 || p < 0) {
            return NO_VALUE;
        }
        answer.set(space.points.value(p, goal, 0), space.points.d[p]);
        answer.add(-figure.points.value(i, goal, 0), figure.points.d[i]);
        return answer.part(what);
    }

    public long slack(int i, int k, int what) {
        if (!isCorner(i) || !isPlane(k) || !isPart(what)) {
            return NONE;
        }
        Points at = figure.points;
        return part(Math.abs(told.over(k, at.x[i], at.y[i], at.z[i], at.d[i])), at.d[i], what);
    }

    public long middle(boolean ofEfficient, int what) {
        if (!isPartOfPlan(what)) {
            return NONE;
        }
        figure.judge();
        answer.set(0, 1);
        int many = 0;
        for (int i = 0; i < figure.corners; i++) {
            if (!ofEfficient || figure.isEfficient(i)) {
                answer.add(figure.points.at(i, what / 2), figure.points.d[i]);
                many++;
            }
        }
        return many == 0 ? MISSING : part(answer.up, answer.low * many, what % 2);
    }

    public int reach(int i, int j, boolean byEfficient) {
        if (!isCorner(i) || !isCorner(j)) {
            return NONE;
        }
        figure.judge();
        figure.walkFrom(i, byEfficient ? Figure.EFFICIENT_EDGE : Figure.EDGE);
        return figure.away[j] < 0 ? MISSING : figure.away[j];
    }

    public int far(int i, int what) {
        if (i < 0 || !isPart(what)) {
            return NONE;
        }
        if (i >= figure.corners) {
            return TOO_FEW;
        }
        figure.judge();
        figure.walkFrom(i, Figure.EDGE);
        int farthest = 0;
        for (int j = 1; j < figure.corners; j++) {
            if (figure.away[j] > figure.away[farthest]) {
                farthest = j;
            }
        }
        return what == 0 ? farthest : figure.away[farthest];
    }

    public int along(int i, int j, int tenths) {
        if (!isCorner(i) || !isCorner(j) || tenths < 0 || tenths > 10) {
            return NONE;
        }
        // Between two allowed plans just that is tight which is tight at both.
        int tight = figure.tight[i] & figure.tight[j];
        if (tenths == 0) {
            tight = figure.tight[i];
        } else if (tenths == 10) {
            tight = figure.tight[j];
        }
        return figure.isEfficientAt(tight) ? 2 : 1;
    }

    public long regret(int what) {
        if (what < 0 || what > 2) {
            return NONE;
        }
        int least = NONE;
        for (int i = 0; i < figure.corners; i++) {
            findRegret(i);
            if (least < 0 || other.isBelow(answer.up, answer.low)) {
                least = i;
                answer.set(other.up, other.low);
            }
        }
        if (least < 0) {
            return MISSING;
        }
        return what == 2 ? least : answer.part(what);
    }

    /** Leaves the REGRET of a CORNER in other. */
    private void findRegret(int i) {
        other.set(0, 1);
        for (int w = 0; w < told.wishes; w++) {
            int top = figure.points.firstWithMost(told.wishTakes, AXES * w);
            if (top >= 0) {
                long up = figure.points.change(i, top, told.wishTakes, AXES * w);
                long low = (long) figure.points.d[i] * figure.points.d[top];
                if (other.isBelow(up, low)) {
                    other.set(up, low);
                }
            }
        }
    }

    public long area(int what) {
        if (!isPart(what)) {
            return NONE;
        }
        if (told.quantities != 2) {
            return UNFIT;
        }
        answer.set(0, 1);
        for (int i = 1; i < figure.corners; i++) {
            for (int j = i + 1; j < figure.corners; j++) {
                if (figure.areLinked(i, j)) {
                    addTriangle(i, j);
                }
            }
        }
        return answer.part(what);
    }

    /** What is allowed falls apart into triangles, each of CORNER 0 and an EDGE that does not touch it. */
    private void addTriangle(int i, int j) {
        Points at = figure.points;
        long d = at.d[0];
        long xi = at.x[i] * d - (long) at.x[0] * at.d[i];
        long yi = at.y[i] * d - (long) at.y[0] * at.d[i];
        long xj = at.x[j] * d - (long) at.x[0] * at.d[j];
        long yj = at.y[j] * d - (long) at.y[0] * at.d[j];
        answer.add(Math.abs(xi * yj - yi * xj), d * d * at.d[i] * at.d[j]);
    }

    public int ranked(int w, int i) {
        if (!isWish(w) || i < 0) {
            return NONE;
        }
        figure.judge();
        for (int j = 0; j < figure.corners; j++) {
            if (figure.isEfficient(j) && figure.efficientAhead(j, w) == i) {
                return j;
            }
        }
        return TOO_FEW;
    }

    public long price(int i, int j, int w, int v, int what) {
        if (!isCorner(i) || !isCorner(j) || i == j || !isWish(w) || !isWish(v) || w == v || !isPart(what)) {
            return NO_SUCH_VALUE;
        }
        if (!figure.areLinked(i, j)) {
            return NO_SUCH_VALUE;
        }
        long through = figure.points.change(i, j, told.wishTakes, AXES * v);
        return through == 0 ? NO_VALUE : part(figure.points.change(i, j, told.wishTakes, AXES * w), through, what);
    }

    public int walk(int i, int a, int b, int c, int what) {
        if (i < 0 || !areWeights(a, b, c) || !isPart(what)) {
            return NONE;
        }
        if (i >= figure.corners) {
            return TOO_FEW;
        }
        aim(a, b, c);
        figure.judge();
        int here = i;
        int steps = 0;
        int next = figure.bestNeighbour(here, goal);
        while (next >= 0 && steps < figure.corners) {
            here = next;
            steps++;
            next = figure.bestNeighbour(here, goal);
        }
        return what == 0 ? here : steps;
    }

    public int chosen(int what) {
        if (!isPart(what)) {
            return NO_SUCH_WHAT;
        }
        figure.judge();
        int first = NONE;
        int most = 0;
        for (int i = 0; i < figure.corners; i++) {
            if (figure.isEfficient(i)) {
                tellLaw(i);
                rules.ask();
                if (!rules.isRefused && (first < 0 || rules.worth > most)) {
                    first = i;
                    most = rules.worth;
                }
            }
        }
        if (first < 0) {
            return NO_SUCH;
        }
        return what == 0 ? first : most;
    }

    private void tellLaw(int i) {
        rules.tell('i', i);
        for (int w = 0; w < WISHES; w++) {
            int value = 0;
            if (w < told.wishes && figure.points.d[i] != 0) {
                value = Math.floorDiv(figure.points.value(i, told.wishTakes, AXES * w), figure.points.d[i]);
            }
            rules.tell('a' + w, value);
        }
        rules.tell('t', Integer.bitCount(figure.tight[i]));
        rules.tell('n', figure.linksOf(i, Figure.EDGE));
        rules.tell('e', figure.efficientNeighbours(i));
    }

    public int spelt(int i, int at) {
        if (i < 0 || at < 0) {
            return NONE;
        }
        if (i >= figure.corners) {
            return TOO_FEW;
        }
        lineEnd = 0;
        for (int q = 0; q < told.quantities; q++) {
            if (q > 0) {
                write(',');
            }
            answer.set(figure.points.at(i, q), figure.points.d[i]);
            writeNumber(answer.up);
            if (answer.low != 1) {
                write('/');
                writeNumber(answer.low);
            }
        }
        return at < lineEnd ? line[at] : MISSING;
    }

    private void write(int sign) {
        if (lineEnd < LINE) {
            line[lineEnd] = sign;
            lineEnd++;
        }
    }

    private void writeNumber(long number) {
        if (number < 0) {
            write('-');
        }
        long size = Math.abs(number);
        long unit = 1;
        for (int digits = 1; digits < 18 && size / unit >= 10; digits++) {
            unit *= 10;
        }
        for (; unit > 0; unit /= 10) {
            write('0' + (int) (size / unit % 10));
        }
    }

    public int keep() {
        kept.copy(told);
        isKept = true;
        return figure.corners;
    }

    public boolean undo() {
        if (!isKept) {
            return false;
        }
        told.copy(kept);
        figure.build(told);
        return true;
    }

    public int check(int n) {
        if (n < 0 || n > CHECK_BYTES || n > onTape) {
            return MISSING;
        }
        onTape = 0;
        for (int i = 0; i < n; i++) {
            long due = NOT_THERE;
            if (i < figure.corners) {
                due = part(figure.points.x[i], figure.points.d[i], 1) & 255;
            }
            if (tape[i] != due) {
                return i;
            }
        }
        return NONE;
    }

    public int count(int what) {
        if (what == 0) {
            return rules.rules;
        }
        return what == 1 ? onTape : NONE;
    }

    private boolean isPart(int what) {
        return what == 0 || what == 1;
    }

    private boolean isPartOfPlan(int what) {
        return what >= 0 && what < 2 * told.quantities;
    }

    private boolean isCorner(int i) {
        return i >= 0 && i < figure.corners;
    }

    private boolean isWish(int w) {
        return w >= 0 && w < told.wishes;
    }

    private boolean isPlane(int k) {
        return k >= 0 && k < told.planes();
    }

    private boolean isWholePlan(int x, int y, int z) {
        return isWholeOf(0, x) && isWholeOf(1, y) && isWholeOf(2, z);
    }

    private boolean isWholeOf(int q, int many) {
        return many >= 0 && many <= (q < told.quantities ? BOX : 0);
    }

    private boolean areWeights(int a, int b, int c) {
        return isWeight(a) && isWeight(b) && isWeight(c);
    }

    private boolean isWeight(int weight) {
        return weight >= 0 && weight <= 9;
    }

    /** The goal is how often each QUANTITY is taken by the WISHES times their weights. */
    private void aim(int a, int b, int c) {
        for (int q = 0; q < AXES; q++) {
            goal[q] = 0;
            for (int w = 0; w < told.wishes; w++) {
                int weight = w == 0 ? a : w == 1 ? b : c;
                goal[q] += weight * told.wishTakes[AXES * w + q];
            }
        }
    }

    private long part(long up, long low, int what) {
        answer.set(up, low);
        return answer.part(what);
    }

    /** A number without a common divisor of its two parts, the lower one above 0. */
    private static final class Fraction {
        private static final int STEPS = 1000;

        long up = 0;
        long low = 1;

        void set(long upper, long lower) {
            long shared = divisor(upper, lower);
            up = 0;
            low = 1;
            if (lower != 0 && shared != 0) {
                long sign = lower < 0 ? -1 : 1;
                up = sign * (upper / shared);
                low = sign * (lower / shared);
            }
        }

        void add(long upper, long lower) {
            long shared = divisor(low, lower);
            if (lower > 0 && shared != 0) {
                set(up * (lower / shared) + upper * (low / shared), low / shared * lower);
            }
        }

        boolean isBelow(long upper, long lower) {
            return up * lower < upper * low;
        }

        long part(int what) {
            return what == 0 ? up : low;
        }

        static long divisor(long one, long two) {
            long a = Math.abs(one);
            long b = Math.abs(two);
            for (int step = 0; step < STEPS && b != 0; step++) {
                long rest = a % b;
                a = b;
                b = rest;
            }
            return a;
        }
    }

    /** What is told by the text of a PROBLEM. */
    private static final class Problem {
        static final int NO_MORE = 0;
        static final int NO_LESS = 1;
        static final int IS_ZERO = 2;
        static final int IS_BOX = 3;

        int quantities = 1;
        int wishes = 0;
        int keeps = 0;
        final int[] wishTakes = new int[AXES * WISHES];
        final int[] keepTakes = new int[AXES * KEEPS];
        final int[] keepNumber = new int[KEEPS];
        final int[] keepKind = new int[KEEPS];
        final int[] box = new int[AXES];

        Problem() {
            clear();
        }

        void clear() {
            quantities = 1;
            wishes = 0;
            keeps = 0;
            for (int q = 0; q < AXES; q++) {
                box[q] = BOX;
            }
        }

        void copy(Problem from) {
            quantities = from.quantities;
            wishes = from.wishes;
            keeps = from.keeps;
            System.arraycopy(from.wishTakes, 0, wishTakes, 0, AXES * WISHES);
            System.arraycopy(from.keepTakes, 0, keepTakes, 0, AXES * KEEPS);
            System.arraycopy(from.keepNumber, 0, keepNumber, 0, KEEPS);
            System.arraycopy(from.keepKind, 0, keepKind, 0, KEEPS);
            System.arraycopy(from.box, 0, box, 0, AXES);
        }

        int planes() {
            return keeps + 2 * quantities;
        }

        int everyWish() {
            return (1 << wishes) - 1;
        }

        int kind(int k) {
            if (k < keeps) {
                return keepKind[k];
            }
            return k < keeps + quantities ? IS_ZERO : IS_BOX;
        }

        int takes(int k, int q) {
            if (k < keeps) {
                return keepTakes[AXES * k + q];
            }
            int of = k < keeps + quantities ? k - keeps : k - keeps - quantities;
            return of == q ? 1 : 0;
        }

        int number(int k) {
            if (k < keeps) {
                return keepNumber[k];
            }
            return k < keeps + quantities ? 0 : box[k - keeps - quantities];
        }

        /** 1 if the sum of a PLANE may be no more than its number, -1 if no less. */
        int sense(int k) {
            int kind = kind(k);
            return kind == NO_MORE || kind == IS_BOX ? 1 : -1;
        }

        /** By how much the sum is over the number, d times. */
        int over(int k, int x, int y, int z, int d) {
            return takes(k, 0) * x + takes(k, 1) * y + takes(k, 2) * z - number(k) * d;
        }

        boolean holds(int k, int x, int y, int z, int d) {
            return sense(k) * over(k, x, y, z, d) <= 0;
        }

        boolean allows(int x, int y, int z, int d) {
            for (int k = 0; k < planes(); k++) {
                if (!holds(k, x, y, z, d)) {
                    return false;
                }
            }
            return true;
        }

        int tightAt(int x, int y, int z, int d) {
            int tight = 0;
            for (int k = 0; k < planes(); k++) {
                if (over(k, x, y, z, d) == 0) {
                    tight |= 1 << k;
                }
            }
            return tight;
        }
    }

    /** A text that is read byte by byte up to its first FAULT. */
    private static final class Text {
        int at = 0;
        int end = 0;
        int fault = 0;

        private int[] bytes = new int[0];

        void begin(int[] from, int n) {
            bytes = from;
            end = Math.min(n, from.length);
            at = 0;
            fault = 0;
        }

        void fail(int number, int place) {
            if (fault == 0) {
                fault = -1000 * number - place;
            }
        }

        /** The byte that stands here, NONE at the end. */
        int here() {
            return at >= 0 && at < end ? bytes[at] : NONE;
        }

        void expect(int sign) {
            if (here() == sign) {
                at++;
            } else {
                fail(1, at);
            }
        }

        boolean isDigit(int sign) {
            return sign >= '0' && sign <= '9';
        }

        /** A number of one to so many digits. */
        int readNumber(int most) {
            if (!isDigit(here())) {
                fail(1, at);
            }
            int number = 0;
            for (int digits = 0; digits < most && isDigit(here()); digits++) {
                number = 10 * number + here() - '0';
                at++;
            }
            return number;
        }

        /** Behind a number that may have no more digits. */
        void refuseDigit() {
            if (isDigit(here())) {
                fail(2, at);
            }
        }

        /** Whether this word and nothing else stands from there to here. */
        boolean isWord(String word, int from) {
            if (from < 0 || at - from != word.length()) {
                return false;
            }
            for (int i = 0; i < word.length(); i++) {
                if (bytes[from + i] != word.charAt(i)) {
                    return false;
                }
            }
            return true;
        }
    }

    /** Reads the text of a PROBLEM. */
    private static final class Reader {
        private static final int DIGITS = 2;
        private static final int NO_WORD = 0;
        private static final int OF = 1;
        private static final int WISH = 2;
        private static final int LEAST = 3;
        private static final int KEEP = 4;
        private static final int IN_BOX = 5;

        private final Text text = new Text();
        private int boxed = 0;
        private Problem into = new Problem();

        /** 0, or the FAULT; then what stands in the PROBLEM is of no use. */
        int read(int[] bytes, int n, Problem problem) {
            text.begin(bytes, n);
            boxed = 0;
            into = problem;
            into.clear();
            readLine(true);
            for (int lines = 1; lines <= n && text.fault == 0 && text.at < text.end; lines++) {
                text.expect(';');
                readLine(false);
            }
            return text.fault;
        }

        private void readLine(boolean isFirst) {
            int start = text.at;
            int word = readWord();
            if (word == NO_WORD || (word == OF) != isFirst) {
                text.fail(1, start);
            }
            if ((word == WISH || word == LEAST) && into.wishes >= WISHES || word == KEEP && into.keeps >= KEEPS) {
                text.fail(4, start);
            }
            text.expect(':');
            if (text.fault != 0) {
                return;
            }
            switch (word) {
                case OF:
                    readQuantities();
                    break;
                case KEEP:
                    readKeep();
                    break;
                case IN_BOX:
                    readBox();
                    break;
                default:
                    readSum(into.wishTakes, AXES * into.wishes, word == LEAST ? -1 : 1);
                    into.wishes++;
                    break;
            }
        }

        private int readWord() {
            int start = text.at;
            while (text.at < text.end && text.here() >= 'a' && text.here() <= 'z') {
                text.at++;
            }
            if (text.isWord("of", start)) {
                return OF;
            }
            if (text.isWord("wish", start)) {
                return WISH;
            }
            if (text.isWord("least", start)) {
                return LEAST;
            }
            if (text.isWord("keep", start)) {
                return KEEP;
            }
            return text.isWord("box", start) ? IN_BOX : NO_WORD;
        }

        private void readQuantities() {
            int digit = text.here();
            if (digit >= '1' && digit <= '3') {
                into.quantities = digit - '0';
                text.at++;
            } else {
                text.fail(1, text.at);
            }
        }

        private void readKeep() {
            int k = into.keeps;
            readSum(into.keepTakes, AXES * k, 1);
            int sign = text.here();
            if (sign == '<' || sign == '>') {
                into.keepKind[k] = sign == '<' ? Problem.NO_MORE : Problem.NO_LESS;
                text.at++;
            } else {
                text.fail(1, text.at);
            }
            into.keepNumber[k] = text.readNumber(DIGITS);
            text.refuseDigit();
            into.keeps++;
        }

        private void readBox() {
            int place = text.at;
            int q = readQuantity();
            if ((boxed & 1 << q) != 0) {
                text.fail(6, place);
            }
            boxed |= 1 << q;
            text.expect('<');
            int first = text.at;
            int number = text.readNumber(DIGITS);
            // First of all a third digit: where one stands the number has not ended, so its size is not asked.
            text.refuseDigit();
            if (number < 1 || number > BOX) {
                text.fail(3, first);
            }
            into.box[q] = number;
        }

        private void readSum(int[] takes, int from, int sense) {
            for (int q = 0; q < AXES; q++) {
                takes[from + q] = 0;
            }
            int sign = sense;
            if (text.here() == '-') {
                sign = -sense;
                text.at++;
            }
            readTerm(takes, from, sign);
            while (text.fault == 0 && text.at < text.end && (text.here() == '+' || text.here() == '-')) {
                sign = text.here() == '+' ? sense : -sense;
                text.at++;
                readTerm(takes, from, sign);
            }
        }

        private void readTerm(int[] takes, int from, int sign) {
            int times = 1;
            if (text.here() == '2' || text.here() == '3') {
                times = text.here() - '0';
                text.at++;
            }
            int place = text.at;
            int q = readQuantity();
            takes[from + q] += sign * times;
            if (Math.abs(takes[from + q]) > MOST_TAKEN) {
                text.fail(3, place);
            }
        }

        /** 0 to 2, behind a FAULT too. */
        private int readQuantity() {
            int q = text.here() - 'x';
            if (q < 0 || q >= AXES) {
                text.fail(1, text.at);
                return 0;
            }
            if (q >= into.quantities) {
                text.fail(7, text.at);
            }
            text.at++;
            return q;
        }
    }

    /**
     * THE LAW. Its text is read again whenever it is asked: looking for FAULTS and reckoning are one way
     * through the same rules, so that they can't part.
     */
    private static final class Law {
        private static final int RULES = 16;
        private static final int OPEN = 6;
        private static final int DIGITS = 5;
        private static final int MOST_WORTH = 9999;
        private static final String LETTERS = "iabctne";

        int rules = 0;
        int worth = 0;
        boolean isRefused = false;

        private final Text text = new Text();
        private final int[] law = new int[LAW_BYTES];
        private int lawEnd = 0;
        private final int[] values = new int[LETTERS.length()];
        private int rulesRead = 0;
        private boolean isWorthFound = false;
        private boolean isDividedByNothing = false;

        /** How many RULES, or the FAULT; then THE LAW is as before. */
        int replace(int[] bytes, int n) {
            int size = Math.min(n, Math.min(bytes.length, LAW_BYTES));
            text.begin(bytes, size);
            readRules();
            if (text.fault != 0) {
                return text.fault;
            }
            System.arraycopy(bytes, 0, law, 0, size);
            lawEnd = size;
            rules = rulesRead;
            return rules;
        }

        /** What a letter stands for when THE LAW is asked. */
        void tell(int letter, int value) {
            int place = LETTERS.indexOf((char) letter);
            if (place >= 0) {
                values[place] = value;
            }
        }

        /** Leaves what the CORNER that was told is worth, and whether it is refused. */
        void ask() {
            worth = 0;
            isRefused = false;
            isWorthFound = false;
            if (lawEnd > 0) {
                text.begin(law, lawEnd);
                readRules();
            }
        }

        private void readRules() {
            rulesRead = 0;
            readRule();
            for (int more = 1; more <= LAW_BYTES && text.fault == 0 && text.at < text.end; more++) {
                text.expect(';');
                readRule();
            }
        }

        private void readRule() {
            int letter = text.here();
            if (letter != 'v' && letter != 'x') {
                text.fail(1, text.at);
            } else if (rulesRead >= RULES) {
                text.fail(4, text.at);
            }
            if (text.fault != 0) {
                return;
            }
            text.at++;
            rulesRead++;
            isDividedByNothing = false;
            int value = letter == 'v' ? readSum(0, true) : 0;
            if (isDividedByNothing) {
                value = 0;
            }
            isDividedByNothing = false;
            text.expect('(');
            boolean holds = readCondition(1, true);
            text.expect(')');
            if (holds && !isDividedByNothing) {
                apply(letter, value);
            }
        }

        private void apply(int letter, int value) {
            if (letter == 'x') {
                isRefused = true;
            } else if (!isWorthFound) {
                isWorthFound = true;
                worth = Math.max(-MOST_WORTH, Math.min(MOST_WORTH, value));
            }
        }

        /** What is not asked is read all the same, but may divide by 0. */
        private boolean readCondition(int open, boolean isAsked) {
            boolean holds = readPart(open, isAsked);
            while (text.fault == 0 && text.at < text.end && text.here() == '|') {
                text.at++;
                boolean next = readPart(open, isAsked && !holds);
                holds = holds || next;
            }
            return holds;
        }

        private boolean readPart(int open, boolean isAsked) {
            boolean holds = readTest(open, isAsked);
            while (text.fault == 0 && text.at < text.end && text.here() == '&') {
                text.at++;
                boolean next = readTest(open, isAsked && holds);
                holds = holds && next;
            }
            return holds;
        }

        private boolean readTest(int open, boolean isAsked) {
            if (text.fault != 0) {
                return false;
            }
            if (text.here() == '!') {
                return enter(open) && !readTest(open + 1, isAsked);
            }
            if (text.here() == '(') {
                boolean holds = enter(open) && readCondition(open + 1, isAsked);
                text.expect(')');
                return holds;
            }
            int left = readSum(open, isAsked);
            int sign = text.here();
            if (sign != '<' && sign != '>' && sign != '=') {
                text.fail(1, text.at);
                return false;
            }
            text.at++;
            int right = readSum(open, isAsked);
            if (sign == '=') {
                return left == right;
            }
            return sign == '<' ? left < right : left > right;
        }

        /** Goes past a ( [ or ! if so many may be open in one another. */
        private boolean enter(int open) {
            if (open >= OPEN) {
                text.fail(5, text.at);
                return false;
            }
            text.at++;
            return true;
        }

        private int readSum(int open, boolean isAsked) {
            int sum = readProduct(open, isAsked);
            while (text.fault == 0 && text.at < text.end && (text.here() == '+' || text.here() == '-')) {
                int sign = text.here();
                text.at++;
                int next = readProduct(open, isAsked);
                sum = sign == '+' ? sum + next : sum - next;
            }
            return sum;
        }

        private int readProduct(int open, boolean isAsked) {
            int product = readFactor(open, isAsked);
            while (text.fault == 0 && text.at < text.end
                    && (text.here() == '*' || text.here() == '/' || text.here() == '%')) {
                int sign = text.here();
                text.at++;
                int next = readFactor(open, isAsked);
                product = sign == '*' ? product * next : divide(product, next, sign, isAsked);
            }
            return product;
        }

        private int divide(int left, int right, int sign, boolean isAsked) {
            if (right == 0) {
                isDividedByNothing = isDividedByNothing || isAsked;
                return 0;
            }
            return sign == '/' ? left / right : left % right;
        }

        private int readFactor(int open, boolean isAsked) {
            if (text.fault != 0) {
                return 0;
            }
            if (text.here() == '[') {
                int value = enter(open) ? readSum(open + 1, isAsked) : 0;
                text.expect(']');
                return value;
            }
            if (text.isDigit(text.here())) {
                int number = text.readNumber(DIGITS);
                text.refuseDigit();
                return number;
            }
            int place = text.here() < 0 ? NONE : LETTERS.indexOf((char) text.here());
            if (place < 0) {
                text.fail(1, text.at);
                return 0;
            }
            text.at++;
            return values[place];
        }
    }

    /** Points as fractions of three QUANTITIES over one lower number, ordered by x, y, z. */
    private static final class Points {
        // Nineteen bounds, the most there are, have 34 points at most.
        private static final int MOST = 64;

        int many = 0;
        final int[] x = new int[MOST];
        final int[] y = new int[MOST];
        final int[] z = new int[MOST];
        final int[] d = new int[MOST];

        void copy(Points from) {
            many = from.many;
            System.arraycopy(from.x, 0, x, 0, many);
            System.arraycopy(from.y, 0, y, 0, many);
            System.arraycopy(from.z, 0, z, 0, many);
            System.arraycopy(from.d, 0, d, 0, many);
        }

        /** Each point once; px, py, pz and low have no common divisor. */
        void insert(int px, int py, int pz, int low) {
            int place = many;
            while (place > 0 && isAhead(px, py, pz, low, place - 1)) {
                place--;
            }
            boolean isThere = place > 0 && x[place - 1] == px && y[place - 1] == py && z[place - 1] == pz
                    && d[place - 1] == low;
            if (isThere || many >= MOST) {
                return;
            }
            put(x, place, px);
            put(y, place, py);
            put(z, place, pz);
            put(d, place, low);
            many++;
        }

        private void put(int[] row, int place, int value) {
            for (int p = many; p > place; p--) {
                row[p] = row[p - 1];
            }
            row[place] = value;
        }

        private boolean isAhead(int px, int py, int pz, int low, int p) {
            long more = (long) px * d[p] - (long) x[p] * low;
            if (more == 0) {
                more = (long) py * d[p] - (long) y[p] * low;
            }
            if (more == 0) {
                more = (long) pz * d[p] - (long) z[p] * low;
            }
            return more < 0;
        }

        /** A QUANTITY, d times. */
        int at(int p, int q) {
            return q == 0 ? x[p] : q == 1 ? y[p] : z[p];
        }

        /** A sum of QUANTITIES, d times. */
        int value(int p, int[] takes, int from) {
            return takes[from] * x[p] + takes[from + 1] * y[p] + takes[from + 2] * z[p];
        }

        /** How much a sum changes from one point to another one, times the lower numbers of both. */
        long change(int p, int to, int[] takes, int from) {
            return (long) value(to, takes, from) * d[p] - (long) value(p, takes, from) * d[to];
        }

        /** The first point with the most, NONE if there is no point. */
        int firstWithMost(int[] takes, int from) {
            int first = many > 0 ? 0 : NONE;
            for (int p = 1; p < many; p++) {
                if (change(first, p, takes, from) > 0) {
                    first = p;
                }
            }
            return first;
        }
    }

    /** Some bounds "a x + b y + c z is no more than r", and where three of them meet and none is broken. */
    private static final class Space {
        private static final int BOUNDS = 24;

        final Points points = new Points();

        private int bounds = 0;
        private final int[] a = new int[BOUNDS];
        private final int[] b = new int[BOUNDS];
        private final int[] c = new int[BOUNDS];
        private final int[] r = new int[BOUNDS];

        private void bound(int ofX, int ofY, int ofZ, int most) {
            if (bounds < BOUNDS) {
                a[bounds] = ofX;
                b[bounds] = ofY;
                c[bounds] = ofZ;
                r[bounds] = most;
                bounds++;
            }
        }

        private void boundAxis(int q, int times, int most) {
            bound(q == 0 ? times : 0, q == 1 ? times : 0, q == 2 ? times : 0, most);
        }

        /** What is ALLOWED, without one PLANE, with the number of one being one more (NONE: of none). */
        void fill(Problem problem, int without, int raised) {
            bounds = 0;
            for (int k = 0; k < problem.planes(); k++) {
                if (k != without) {
                    int number = problem.number(k) + (k == raised ? 1 : 0);
                    boundPlane(problem, k, number);
                }
            }
            // Of a QUANTITY that is not there nothing is taken: this alone holds it, so it is 0 at every point.
            for (int q = problem.quantities; q < AXES; q++) {
                boundAxis(q, -1, 0);
            }
        }

        private void boundPlane(Problem problem, int k, int number) {
            int sense = problem.sense(k);
            bound(sense * problem.takes(k, 0), sense * problem.takes(k, 1), sense * problem.takes(k, 2),
                    sense * number);
        }

        void boundWish(Problem problem, int w, int least) {
            int at = AXES * w;
            bound(-problem.wishTakes[at], -problem.wishTakes[at + 1], -problem.wishTakes[at + 2], -least);
        }

        /**
         * The ways, none longer than 1 along a QUANTITY, that lead from where these PLANES are TIGHT to
         * ALLOWED PLANS with no WISH less: what is EFFICIENT hangs on what is TIGHT alone.
         */
        void fillWays(Problem problem, int tight) {
            bounds = 0;
            for (int k = 0; k < problem.planes(); k++) {
                if ((tight & 1 << k) != 0) {
                    boundPlane(problem, k, 0);
                }
            }
            for (int w = 0; w < problem.wishes; w++) {
                boundWish(problem, w, 0);
            }
            for (int q = 0; q < AXES; q++) {
                boundAxis(q, -1, q < problem.quantities ? 1 : 0);
                if (q < problem.quantities) {
                    boundAxis(q, 1, 1);
                }
            }
        }

        void find() {
            points.many = 0;
            for (int i = 0; i < bounds; i++) {
                for (int j = i + 1; j < bounds; j++) {
                    int nx = b[i] * c[j] - c[i] * b[j];
                    int ny = c[i] * a[j] - a[i] * c[j];
                    int nz = a[i] * b[j] - b[i] * a[j];
                    for (int k = j + 1; k < bounds; k++) {
                        int low = nx * a[k] + ny * b[k] + nz * c[k];
                        if (low != 0) {
                            meet(i, j, k, low);
                        }
                    }
                }
            }
        }

        /** Three bounds that are not side by side meet in one point (Cramer). */
        private void meet(int i, int j, int k, int determinant) {
            int sign = determinant < 0 ? -1 : 1;
            int px = sign * (r[i] * (b[j] * c[k] - c[j] * b[k]) + r[j] * (b[k] * c[i] - c[k] * b[i])
                    + r[k] * (b[i] * c[j] - c[i] * b[j]));
            int py = sign * (r[i] * (c[j] * a[k] - a[j] * c[k]) + r[j] * (c[k] * a[i] - a[k] * c[i])
                    + r[k] * (c[i] * a[j] - a[i] * c[j]));
            int pz = sign * (r[i] * (a[j] * b[k] - b[j] * a[k]) + r[j] * (a[k] * b[i] - b[k] * a[i])
                    + r[k] * (a[i] * b[j] - b[i] * a[j]));
            int low = sign * determinant;
            if (!keepsAll(px, py, pz, low)) {
                return;
            }
            long shared = Fraction.divisor(Fraction.divisor(px, py), Fraction.divisor(pz, low));
            if (shared > 0) {
                points.insert((int) (px / shared), (int) (py / shared), (int) (pz / shared), (int) (low / shared));
            }
        }

        private boolean keepsAll(int px, int py, int pz, int low) {
            for (int k = 0; k < bounds; k++) {
                if (a[k] * px + b[k] * py + c[k] * pz > r[k] * low) {
                    return false;
                }
            }
            return true;
        }
    }

    /** The CORNERS of a PROBLEM, how they hang together, and what of this is EFFICIENT. */
    private static final class Figure {
        static final int EDGE = 1;
        static final int EFFICIENT_EDGE = 2;
        // Ten PLANES in space have sixteen CORNERS at most.
        private static final int CORNERS = 24;

        int corners = 0;
        final Points points = new Points();
        final int[] tight = new int[CORNERS];
        final int[] layer = new int[CORNERS];
        final int[] away = new int[CORNERS];
        final int[][] link = new int[CORNERS][CORNERS];

        Problem problem;
        private final Space space;
        private final int[] risen = new int[CORNERS];
        private boolean isJudged = false;

        Figure(Problem first, Space shared) {
            problem = first;
            space = shared;
        }

        void build(Problem now) {
            problem = now;
            isJudged = false;
            space.fill(now, NONE, NONE);
            space.find();
            points.copy(space.points);
            corners = Math.min(points.many, CORNERS);
            for (int i = 0; i < corners; i++) {
                tight[i] = now.tightAt(points.x[i], points.y[i], points.z[i], points.d[i]);
            }
        }

        /** Reckoned when it is first asked for: it is dear, and many a PROBLEM is never asked. */
        void judge() {
            if (isJudged) {
                return;
            }
            isJudged = true;
            for (int i = 0; i < corners; i++) {
                risen[i] = findRisen(tight[i]);
                layer[i] = NONE;
            }
            for (int i = 0; i < corners; i++) {
                link[i][i] = 0;
                for (int j = i + 1; j < corners; j++) {
                    int found = areLinked(i, j) ? EDGE : 0;
                    if (found == EDGE && risen[i] == 0 && risen[j] == 0 && findRisen(tight[i] & tight[j]) == 0) {
                        found = EFFICIENT_EDGE;
                    }
                    link[i][j] = found;
                    link[j][i] = found;
                }
            }
            boolean isOver = corners == 0;
            for (int l = 0; l < corners && !isOver; l++) {
                isOver = !peel(l);
            }
        }

        /** Which WISHES (bits) can be more, none being less, where these PLANES are TIGHT. */
        private int findRisen(int tightThere) {
            int more = 0;
            if (problem.wishes > 0) {
                space.fillWays(problem, tightThere);
                space.find();
                for (int p = 0; p < space.points.many; p++) {
                    for (int w = 0; w < problem.wishes; w++) {
                        if (space.points.value(p, problem.wishTakes, AXES * w) > 0) {
                            more |= 1 << w;
                        }
                    }
                }
            }
            return more;
        }

        boolean isEfficientAt(int tightThere) {
            return findRisen(tightThere) == 0;
        }

        /** Two CORNERS are NEIGHBOURS if what is TIGHT at both fixes all but one of the QUANTITIES. */
        boolean areLinked(int i, int j) {
            return i != j && rank(tight[i] & tight[j]) >= problem.quantities - 1;
        }

        /** How many unlike ways there are across these PLANES, of more than two only two. */
        private int rank(int planes) {
            int first = NONE;
            for (int k = 0; k < problem.planes(); k++) {
                if ((planes & 1 << k) != 0 && !takesNothing(k)) {
                    if (first < 0) {
                        first = k;
                    } else if (!areParallel(first, k)) {
                        return 2;
                    }
                }
            }
            return first < 0 ? 0 : 1;
        }

        private boolean takesNothing(int k) {
            return problem.takes(k, 0) == 0 && problem.takes(k, 1) == 0 && problem.takes(k, 2) == 0;
        }

        private boolean areParallel(int k, int l) {
            return isFlat(k, l, 0, 1) && isFlat(k, l, 1, 2) && isFlat(k, l, 2, 0);
        }

        private boolean isFlat(int k, int l, int q, int p) {
            return problem.takes(k, q) * problem.takes(l, p) == problem.takes(k, p) * problem.takes(l, q);
        }

        /** Puts into this LAYER those than which none that is in no LAYER ahead is better. */
        private boolean peel(int l) {
            boolean isPeeled = false;
            for (int i = 0; i < corners; i++) {
                if (layer[i] < 0 && !isBeaten(i, l)) {
                    layer[i] = l;
                    isPeeled = true;
                }
            }
            return isPeeled;
        }

        private boolean isBeaten(int i, int l) {
            for (int j = 0; j < corners; j++) {
                if ((layer[j] < 0 || layer[j] == l) && beats(j, i)) {
                    return true;
                }
            }
            return false;
        }

        private boolean beats(int j, int i) {
            boolean isMore = false;
            for (int w = 0; w < problem.wishes; w++) {
                long more = points.change(i, j, problem.wishTakes, AXES * w);
                if (more < 0) {
                    return false;
                }
                isMore = isMore || more > 0;
            }
            return isMore;
        }

        boolean isEfficient(int i) {
            return risen[i] == 0;
        }

        /** If each WISH alone can be more with none less, the middle of those ways makes each of them more. */
        boolean isWeak(int i) {
            return problem.wishes == 0 || risen[i] != problem.everyWish();
        }

        /** By how much i has more of a WISH than j; of interest is only whether it is above 0. */
        long lead(int i, int j, int w) {
            return points.change(j, i, problem.wishTakes, AXES * w);
        }

        /** The first EFFICIENT CORNER with the least of a WISH. */
        int firstWithLeast(int w) {
            int first = NONE;
            for (int i = 0; i < corners; i++) {
                if (isEfficient(i) && (first < 0 || lead(i, first, w) < 0)) {
                    first = i;
                }
            }
            return first;
        }

        /** NONE if no NEIGHBOUR has more. */
        int bestNeighbour(int i, int[] goal) {
            int first = i;
            for (int j = 0; j < corners; j++) {
                if (link[i][j] >= EDGE && points.change(first, j, goal, 0) > 0) {
                    first = j;
                }
            }
            return first == i ? NONE : first;
        }

        /** How many EFFICIENT CORNERS come ahead by a WISH. */
        int efficientAhead(int i, int w) {
            int ahead = 0;
            for (int j = 0; j < corners; j++) {
                if (j != i && isEfficient(j)) {
                    long more = lead(j, i, w);
                    if (more > 0 || more == 0 && j < i) {
                        ahead++;
                    }
                }
            }
            return ahead;
        }

        int linksOf(int i, int least) {
            int many = 0;
            for (int j = 0; j < corners; j++) {
                if (link[i][j] >= least) {
                    many++;
                }
            }
            return many;
        }

        int links(int least) {
            int ends = 0;
            for (int i = 0; i < corners; i++) {
                ends += linksOf(i, least);
            }
            return ends / 2;
        }

        int efficientNeighbours(int i) {
            int many = 0;
            for (int j = 0; j < corners; j++) {
                if (link[i][j] >= EDGE && isEfficient(j)) {
                    many++;
                }
            }
            return many;
        }

        int efficientCorners() {
            int many = 0;
            for (int i = 0; i < corners; i++) {
                many += isEfficient(i) ? 1 : 0;
            }
            return many;
        }

        int weakCorners() {
            int many = 0;
            for (int i = 0; i < corners; i++) {
                many += isWeak(i) ? 1 : 0;
            }
            return many;
        }

        int crowdedCorners() {
            int many = 0;
            for (int i = 0; i < corners; i++) {
                many += Integer.bitCount(tight[i]) > problem.quantities ? 1 : 0;
            }
            return many;
        }

        int layers() {
            int many = 0;
            for (int i = 0; i < corners; i++) {
                many = Math.max(many, layer[i] + 1);
            }
            return many;
        }

        int efficientValues() {
            int many = 0;
            for (int i = 0; i < corners; i++) {
                boolean isNew = isEfficient(i);
                for (int j = 0; j < i; j++) {
                    isNew = isNew && !(isEfficient(j) && areAlike(i, j));
                }
                many += isNew ? 1 : 0;
            }
            return many;
        }

        private boolean areAlike(int i, int j) {
            for (int w = 0; w < problem.wishes; w++) {
                if (lead(i, j, w) != 0) {
                    return false;
                }
            }
            return true;
        }

        int pieces() {
            int seen = 0;
            int many = 0;
            for (int i = 0; i < corners; i++) {
                if (isEfficient(i) && (seen & 1 << i) == 0) {
                    many++;
                    walkFrom(i, EFFICIENT_EDGE);
                    for (int j = 0; j < corners; j++) {
                        seen |= away[j] >= 0 ? 1 << j : 0;
                    }
                }
            }
            return many;
        }

        /** Leaves in away how many EDGES each CORNER is from i, NONE where there is no way. */
        void walkFrom(int i, int least) {
            for (int j = 0; j < corners; j++) {
                away[j] = j == i ? 0 : NONE;
            }
            for (int steps = 0; steps < corners; steps++) {
                for (int j = 0; j < corners; j++) {
                    if (away[j] == steps) {
                        stepFrom(j, least);
                    }
                }
            }
        }

        private void stepFrom(int i, int least) {
            for (int j = 0; j < corners; j++) {
                if (link[i][j] >= least && away[j] < 0) {
                    away[j] = away[i] + 1;
                }
            }
        }

        int cornersOn(int k) {
            int many = 0;
            for (int i = 0; i < corners; i++) {
                many += (tight[i] & 1 << k) != 0 ? 1 : 0;
            }
            return many;
        }

        /** What is TIGHT at all CORNERS on a PLANE is what is TIGHT at the middle of them. */
        private int tightOn(int k) {
            int common = -1;
            for (int i = 0; i < corners; i++) {
                if ((tight[i] & 1 << k) != 0) {
                    common &= tight[i];
                }
            }
            return common;
        }

        /** Three CORNERS do not lie in a line: what is ALLOWED has no more than two CORNERS on one. */
        boolean isFace(int k) {
            return problem.quantities == AXES && cornersOn(k) >= 3;
        }

        boolean isEfficientFace(int k) {
            return findRisen(tightOn(k)) == 0;
        }

        int faces(boolean onlyEfficient) {
            int many = 0;
            for (int k = 0; k < problem.planes(); k++) {
                if (isFace(k) && (!onlyEfficient || isEfficientFace(k))) {
                    many++;
                }
            }
            return many;
        }
    }

    /** Shares of the first of two WISHES, the other one having the rest. */
    private static final class Shares {
        private static final int TURNS = 64;

        final Fraction least = new Fraction();
        final Fraction greatest = new Fraction();
        int turns = 0;
        final long[] up = new long[TURNS];
        final long[] low = new long[TURNS];

        private final Fraction share = new Fraction();

        /** The WEIGHTS of a CORNER, false if there are none. */
        boolean findFor(Figure figure, int i) {
            int[] takes = figure.problem.wishTakes;
            least.set(0, 1);
            greatest.set(1, 1);
            for (int j = 0; j < figure.corners; j++) {
                long first = figure.points.change(j, i, takes, 0);
                long second = figure.points.change(j, i, takes, AXES);
                if (first > second && least.isBelow(-second, first - second)) {
                    least.set(-second, first - second);
                }
                if (first < second && !greatest.isBelow(second, second - first)) {
                    greatest.set(second, second - first);
                }
                if (first == second && first < 0) {
                    return false;
                }
            }
            return !greatest.isBelow(least.up, least.low);
        }

        void findTurns(Figure figure) {
            int[] takes = figure.problem.wishTakes;
            turns = 0;
            for (int i = 0; i < figure.corners; i++) {
                for (int j = i + 1; j < figure.corners; j++) {
                    // Both have as much at the share s if first * s + second * (1 - s) is 0.
                    long first = figure.points.change(i, j, takes, 0);
                    long second = figure.points.change(i, j, takes, AXES);
                    if (first > 0 && second < 0 || first < 0 && second > 0) {
                        share.set(second, second - first);
                        if (isBest(figure, i)) {
                            insert(share.up, share.low);
                        }
                    }
                }
            }
        }

        private boolean isBest(Figure figure, int i) {
            int[] takes = figure.problem.wishTakes;
            for (int j = 0; j < figure.corners; j++) {
                long more = share.up * figure.points.change(i, j, takes, 0)
                        + (share.low - share.up) * figure.points.change(i, j, takes, AXES);
                if (more > 0) {
                    return false;
                }
            }
            return true;
        }

        private void insert(long upper, long lower) {
            int place = turns;
            while (place > 0 && upper * low[place - 1] < up[place - 1] * lower) {
                place--;
            }
            boolean isThere = place > 0 && up[place - 1] == upper && low[place - 1] == lower;
            if (isThere || turns >= TURNS) {
                return;
            }
            for (int t = turns; t > place; t--) {
                up[t] = up[t - 1];
                low[t] = low[t - 1];
            }
            up[place] = upper;
            low[place] = lower;
            turns++;
        }
    }
}
