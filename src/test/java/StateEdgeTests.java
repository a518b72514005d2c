import java.util.ArrayList;
import java.util.List;

/**
 * Promises 1, 2 and 38 to 41, and what holds for all calls: what a refused call leaves as it was, which of several
 * reasons comes first, that an object's memory is its own, the last of 512 calls. Each check begins with the promise.
 */
public final class StateEdgeTests {
    private interface Call {
        long ask(SeveralWishes x);
    }

    private static final Desk d = new Desk("StateEdgeTests");
    private static final int MANY = Integer.MAX_VALUE;
    private static final int FEW = Integer.MIN_VALUE;
    private static final int NO_SUCH = -100000;
    private static final long NO_SUCH_VALUE = -100000000L;
    private static final long NO_VALUE = -99999999L;
    private static final String FULL = "of:3;wish:x;wish:y;wish:z;keep:x+y+z<24;keep:x+y+z>3;keep:x-y-z<6;keep:y-x-z<6";
    private static final String SQUARE = "of:2;wish:x;wish:y;keep:x+y<10;box:x<8;box:y<8";
    private static final String EMPTY = "of:2;wish:x;wish:y;keep:x>5;keep:x<4";
    private static final String LINE = "of:1;box:x<7";
    /** One CORNER, 5/2 and 7/3. */
    private static final String POINT = "of:2;wish:x;wish:y;keep:2x>5;keep:2x<5;keep:3y>7;keep:3y<7";
    private static final String LAW = "v50-i*3(a>0-9);x(i=9999)";
    private static final String KEPT = "of:3;wish:2x+y-3z;least:x+3y+2z;wish:3x-y+z;keep:x+y-z<7;keep:2x+3y+z>2;"
            + "keep:3x-y+2z<18;keep:x+y+3z>1;box:x<6;box:y<5;box:z<4";
    private static final String OTHER = "of:3;least:3x-2y+z;wish:y-z;least:2z-x;keep:3x+2y+z>4;keep:2x+z<16;"
            + "keep:x-3y-z>0;keep:3x+3y-z<31;box:x<8;box:y<7;box:z<2";
    /** Twenty bytes, that stay on the tape. */
    private static final String ON_TAPE = "of:2;least:x;box:y<3";

    public static void main(String[] args) {
        aNewObject();
        feed();
        keepAndUndo();
        check();
        count();
        refusedOfFull();
        refusedOfSquare();
        refusedOfEmpty();
        refusedOfLine();
        refusedTexts();
        refusedFeed();
        refusedUndo();
        questions();
        reasons();
        inPlaceOfTheOneBefore();
        ownMemory();
        lastCall();
        d.end();
    }

    private static void aNewObject() {
        d.fresh();
        d.due("1: one QUANTITY", d.x().problemIs(0), 1);
        d.due("1: no WISHES", d.x().problemIs(1), 0);
        d.due("1: no KEEPS", d.x().problemIs(2), 0);
        d.due("1: no LAW", d.x().count(0), 0);
        d.due("1: no tape", d.x().count(1), 0);
        d.due("1: BOX 9 if nothing is told", d.x().corner(1, 0), 9);
        d.due("1: none KEPT", d.x().undo() ? 1 : 0, 0);
        d.due("1: there is none", SeveralWishes.NONE, -1);
    }

    private static void feed() {
        d.fresh();
        for (int many = 20; many <= 260; many += 20) {
            d.due("2: how many it has, 260 at most", d.x().feed(0, -1, MANY, FEW, 1), many);
            d.due("41: bytes of the tape", d.x().count(1), many);
        }
        for (int more = 0; more < 2; more++) {
            d.due("2: NONE if that would be more than 260", d.x().feed(0, 0, 0, 0, 0), -1);
            d.due("2: NONE changes nothing", d.x().count(1), 260);
        }
        d.x().check(1);
        d.due("2: empty, then twenty", d.x().feed(0, 0, 0, 0, 0), 20);
        d.fresh().problem(EMPTY);
        for (int bit = 0; bit < 160; bit++) {
            int[] fours = {-1, -1, -1, -1, -1};
            fours[bit / 32] ^= 1 << 31 - bit % 32;
            d.x().feed(fours[0], fours[1], fours[2], fours[3], fours[4]);
            d.due("2: the highest byte of each int first", d.x().check(20), bit / 8);
        }
        for (int at = 0; at < 60; at++) {
            d.fresh().problem(EMPTY);
            for (int from = 0; from < 60; from += 20) {
                int[] fours = {-1, -1, -1, -1, -1};
                if (at >= from && at < from + 20) {
                    fours[(at - from) / 4] = ~(1 << 8 * (3 - at % 4));
                }
                d.x().feed(fours[0], fours[1], fours[2], fours[3], fours[4]);
            }
            d.due("2: bytes come behind the tape", d.x().check(60), at);
        }
        d.fresh().feed(POINT);
        d.due("2: the first bytes of 260 are still those", d.x().problem(POINT.length()), 1);
    }

    private static void keepAndUndo() {
        d.fresh();
        d.due("39: none was KEPT", d.x().undo() ? 1 : 0, 0);
        d.due("38: how many CORNERS of a new object", d.x().keep(), 2);
        d.problem(FULL);
        d.due("39: UNDONE", d.x().undo() ? 1 : 0, 1);
        d.due("39: to a new object's PROBLEM", d.x().problemIs(0) * 100 + d.x().problemIs(1) * 10 + d.x().problemIs(2), 100);
        d.problem(FULL);
        d.due("38: as many as can be", d.x().keep(), 16);
        d.law(LAW);
        d.problem(EMPTY);
        d.due("39: UNDONE", d.x().undo() ? 1 : 0, 1);
        d.due("39: all of it", d.x().all(0) * 100 + d.x().all(1), 1624);
        d.due("39: all of it", d.x().plane(3, 3) * 10 + d.x().wish(2, 2), 61);
        d.due("39: THE LAW stays", d.x().count(0), 2);
        d.problem(EMPTY);
        d.due("38: no CORNERS", d.x().keep(), 0);
        d.problem(SQUARE);
        d.due("38: KEPT anew", d.x().keep(), 5);
        d.problem(EMPTY);
        d.law("v1(1=1)");
        d.x().undo();
        d.due("39: as it was KEPT last", d.x().all(0), 5);
        d.due("39: as it was KEPT last: its BOX", d.x().problemIs(11), 8);
        d.due("39: THE LAW stays", d.x().chosen(1), 1);
        d.due("39: UNDONE again: one was KEPT", d.x().undo() ? 1 : 0, 1);
        d.due("39: as it was KEPT last", d.x().all(0), 5);
        d.problem(LINE);
        d.feed(ON_TAPE);
        d.due("38: the tape stays", d.x().keep() * 100 + d.x().count(1), 220);
        d.due("39: the tape stays", (d.x().undo() ? 100 : 0) + d.x().count(1), 120);
        d.due("39: what is on it, too", d.x().problem(20), 4);
        d.problem("of:1;box:x<0");
        d.x().undo();
        d.due("39: behind a FAULT", d.x().problemIs(10), 7);
    }

    private static void check() {
        d.fresh().problem(POINT);
        for (int lower = 0; lower < 256; lower++) {
            if (d.calls() > 500) {
                d.fresh().problem(POINT);
            }
            d.due("40: a lower number of x: " + lower, d.check(lower), lower == 2 ? -1 : 0);
        }
        d.fresh();
        for (int lower = 0; lower < 256; lower++) {
            if (d.calls() > 500) {
                d.fresh();
            }
            d.due("40: a CORNER that is not there 255: " + lower, d.check(1, 1, lower), lower == 255 ? -1 : 2);
        }
        int[] sixty = new int[60];
        for (int at = -1; at < 60; at++) {
            d.fresh().problem(FULL);
            for (int i = 0; i < 60; i++) {
                sixty[i] = (i < 16 ? 1 : 255) ^ (i == at ? 2 : 0);
            }
            d.due("40: 60 at most: right, or the first that is not so", d.check(sixty), at);
            d.due("40: empty then", d.x().count(1), 0);
        }
        sixty[3] = 9;
        d.due("40: the first of two that are not so", d.check(sixty), 3);
        d.fresh();
        d.due("40: of no bytes", d.x().check(0), -1);
        d.feed("a");
        d.due("40: of no bytes of twenty", d.x().check(0), -1);
        d.due("40: empty then", d.x().count(1), 0);
        d.due("40: it has not so many: one", d.x().check(1), -2);
        d.feed("a");
        for (int no : new int[] {-1, 21, 60, 61, MANY, FEW}) {
            d.due("40: no such n, it has not so many: " + no, d.x().check(no), -2);
            d.due("40: the tape stays", d.x().count(1), 20);
        }
        d.feed("a".repeat(240));
        for (int no : new int[] {-1, 61, 260, MANY, FEW}) {
            d.due("40: no such n: " + no, d.x().check(no), -2);
            d.due("40: the tape stays", d.x().count(1), 260);
        }
        d.due("40: 60 of 260", d.x().check(60), 0);
        d.due("40: empty then, of more than is asked", d.x().count(1), 0);
        d.problem("of:2;keep:3x+y<10;keep:2x-3y<3;keep:3x-y>1");
        d.due("40: of x, not of y", d.check(3, 2, 6, 1, 255), -1);
        d.problem("of:3;keep:3x+3y+3z<26;keep:3x-3y+2z>19;keep:3x+y-3z>23");
        d.due("40: of three digits", d.check(3, 102, 2, 3, 6, 3, 255), -1);
        d.due("40: of three digits", d.check(3, 103, 2, 3, 6, 3, 255), 1);
    }

    private static void count() {
        d.fresh();
        for (int no : new int[] {-1, 2, 3, 200, MANY, FEW}) {
            d.due("41: NONE for others: " + no, d.x().count(no), -1);
        }
        d.due("41: 0 RULES", d.x().count(0), 0);
        d.law("x(1=2)" + ";x(1=2)".repeat(15));
        d.due("41: 16 RULES", d.x().count(0), 16);
        d.law("x(1=2)");
        d.due("41: RULES in place of those before", d.x().count(0), 1);
        d.law("x(1=2);x");
        d.due("41: RULES behind a FAULT", d.x().count(0), 1);
    }

    // What is refused changes nothing.

    private static SeveralWishes prepared(String problem) {
        d.fresh().problem(KEPT);
        d.x().keep();
        // Two that share nothing with what is KEPT, so that nothing of it is left over where it was told.
        d.problem(OTHER);
        d.problem(OTHER);
        d.problem(problem);
        d.law(LAW);
        d.feed(ON_TAPE);
        return d.x();
    }

    /** Some hundred answers that would not be the same if anything else were told. */
    private static List<Long> answers() {
        List<Long> all = new ArrayList<>();
        for (int what = 0; what < 13; what++) {
            all.add((long) d.x().problemIs(what));
            all.add((long) d.x().all(what));
        }
        for (int k = 0; k < 10; k++) {
            for (int what = 0; what < 5; what++) {
                all.add((long) d.x().plane(k, what));
            }
        }
        for (int w = 0; w < 9; w++) {
            all.add((long) d.x().wish(w / 3, w % 3));
        }
        for (int i = 0; i < 16; i += 5) {
            for (int what = 0; what < 6; what++) {
                all.add(d.x().corner(i, what));
            }
            all.add((long) d.x().cornerIs(i, 4));
        }
        for (int what = 0; what < 2; what++) {
            all.add((long) d.x().count(what));
            all.add((long) d.x().chosen(what));
        }
        return all;
    }

    /** Those of a new object that is told this PROBLEM and THE LAW, the text on its tape or nothing. */
    private static List<Long> answersOf(String problem, boolean hasTape) {
        d.fresh().problem(problem);
        d.law(LAW);
        if (hasTape) {
            d.feed(ON_TAPE);
        }
        return answers();
    }

    private static void same(String call, List<Long> is, List<Long> was) {
        d.due(call + ": is " + is + ", was " + was, is.equals(was) ? 1 : 0, 1);
    }

    /** Each call on an object of its own: it answers this, and then nothing is changed. */
    private static void leavesAll(String name, String problem, long due, Call... calls) {
        List<Long> now = answersOf(problem, true);
        List<Long> kept = answersOf(KEPT, true);
        List<Long> onTape = answersOf(ON_TAPE, false);
        for (int at = 0; at < calls.length; at++) {
            String call = name + " " + due + ", call " + at;
            d.due(call, calls[at].ask(prepared(problem)), due);
            same(call + " leaves PROBLEM, LAW, tape", answers(), now);
            d.due(call + " leaves that one is KEPT", d.x().undo() ? 1 : 0, 1);
            same(call + " leaves what is KEPT", answers(), kept);
            d.due(call + " leaves what is on the tape", d.x().problem(20), 4);
            same(call + " leaves what is on the tape", answers(), onTape);
        }
    }

    private static void refusedOfFull() {
        leavesAll("refused", FULL, -1,
            x -> x.law(0), x -> x.law(-1), x -> x.law(21), x -> x.law(241), x -> x.law(FEW), x -> x.law(MANY),
            x -> x.problem(0), x -> x.problem(-1), x -> x.problem(21), x -> x.problem(201), x -> x.problem(FEW),
            x -> x.problem(MANY), x -> x.problemIs(-1), x -> x.problemIs(4), x -> x.problemIs(13), x -> x.corner(0, 6),
            x -> x.corner(-1, 0), x -> x.cornerIs(0, 6), x -> x.cornerIs(-1, 0), x -> x.edge(0, 16), x -> x.edge(-1, 0),
            x -> x.edge(3, 3), x -> x.all(12), x -> x.all(-1), x -> x.weights(0, 4), x -> x.weights(-1, 0),
            x -> x.behind(11), x -> x.behind(-1), x -> x.plan(10, 0, 0), x -> x.plan(0, 0, -1),
            x -> x.gain(0, 10, 0, 0), x -> x.gain(3, 3, 3, 2), x -> x.better(0, 0, 10, 0), x -> x.better(3, 3, 3, 6),
            x -> x.face(10, 0), x -> x.face(0, 3), x -> x.needed(4), x -> x.needed(-1), x -> x.turn(100), x -> x.turn(-1),
            x -> x.slack(16, 0, 0), x -> x.slack(0, 10, 0), x -> x.slack(0, 0, 2), x -> x.middle(false, 6),
            x -> x.middle(true, -1), x -> x.reach(16, 0, true), x -> x.reach(0, -1, false), x -> x.far(0, 2),
            x -> x.far(-1, 0), x -> x.along(0, 16, 0), x -> x.along(0, 1, 11), x -> x.regret(3), x -> x.area(2),
            x -> x.ranked(3, 0), x -> x.ranked(0, -1), x -> x.walk(0, 10, 0, 0, 0), x -> x.walk(0, 0, 0, 0, 2),
            x -> x.spelt(-1, 0), x -> x.spelt(0, -1), x -> x.count(2), x -> x.count(-1));
        leavesAll("refused", FULL, NO_SUCH,
            x -> x.wish(3, 0), x -> x.wish(0, 3), x -> x.plane(10, 0), x -> x.plane(0, 5), x -> x.whole(10, 0, 0, 0),
            x -> x.whole(0, 0, 0, 3));
        leavesAll("refused", FULL, NO_SUCH_VALUE,
            x -> x.wishAt(16, 0, 0), x -> x.wishAt(0, 3, 0), x -> x.wishAt(0, 0, 2), x -> x.ideal(3, 0),
            x -> x.ideal(0, 4), x -> x.best(10, 0, 0, 0), x -> x.best(0, 0, -1, 0), x -> x.best(0, 0, 0, 3),
            x -> x.heldAt(0, 0, 0, 0), x -> x.heldAt(0, 1, 1000, 0), x -> x.heldAt(0, 1, -1000, 0),
            x -> x.heldAt(0, 1, 0, 2), x -> x.shadow(4, 0, 0, 0, 0), x -> x.shadow(0, 10, 0, 0, 0),
            x -> x.shadow(0, 0, 0, 0, 2), x -> x.price(0, 16, 0, 1, 0), x -> x.price(0, 15, 0, 1, 0),
            x -> x.price(0, 1, 0, 0, 0), x -> x.price(0, 1, 0, 1, 2));
        leavesAll("refused", FULL, -100001, x -> x.chosen(2), x -> x.chosen(-1));
        leavesAll("refused", FULL, NO_VALUE, x -> x.heldAt(0, 1, 10, 0), x -> x.price(9, 15, 0, 1, 0));
        leavesAll("refused", FULL, -4, x -> x.corner(16, 0), x -> x.cornerIs(16, 0), x -> x.far(16, 0),
            x -> x.ranked(0, 3), x -> x.walk(16, 0, 0, 0, 0), x -> x.spelt(16, 0));
        leavesAll("refused", FULL, -3, x -> x.weights(0, 0), x -> x.turn(0), x -> x.turn(200), x -> x.area(0));
        leavesAll("refused", FULL, -2, x -> x.check(-1), x -> x.check(21), x -> x.check(61), x -> x.check(MANY),
            x -> x.gain(9, 9, 9, 0), x -> x.better(9, 9, 9, 0), x -> x.reach(0, 1, true), x -> x.spelt(0, 5));
    }

    private static void refusedOfSquare() {
        leavesAll("refused", SQUARE, -2, x -> x.weights(0, 0), x -> x.turn(2), x -> x.turn(99), x -> x.gain(9, 9, 0, 0));
        leavesAll("refused", SQUARE, -4, x -> x.weights(5, 0), x -> x.ranked(1, 2));
        leavesAll("refused", SQUARE, -1, x -> x.plan(0, 0, 1), x -> x.gain(0, 0, 1, 0), x -> x.better(0, 0, 1, 0),
            x -> x.corner(0, 4), x -> x.middle(true, 4), x -> x.better(0, 0, 0, 4), x -> x.behind(0), x -> x.behind(12));
        leavesAll("refused", "of:1;wish:x;least:x;keep:x>9", NO_VALUE, x -> x.shadow(0, 1, 1, 0, 0));
    }

    private static void refusedOfEmpty() {
        leavesAll("refused", EMPTY, -2, x -> x.behind(1), x -> x.middle(false, 0), x -> x.middle(true, 3),
            x -> x.regret(0), x -> x.gain(0, 0, 0, 0), x -> x.better(5, 0, 0, 0));
        leavesAll("refused", EMPTY, -4, x -> x.corner(0, 0), x -> x.cornerIs(0, 0), x -> x.weights(0, 0),
            x -> x.far(0, 0), x -> x.ranked(0, 0), x -> x.walk(0, 0, 0, 0, 0), x -> x.spelt(0, 0));
        leavesAll("refused", EMPTY, -1, x -> x.edge(0, 1), x -> x.slack(0, 0, 0), x -> x.reach(0, 0, true),
            x -> x.along(0, 0, 0));
        leavesAll("refused", EMPTY, NO_SUCH, x -> x.whole(0, 0, 0, 1), x -> x.whole(0, 0, 0, 2), x -> x.chosen(0),
            x -> x.chosen(1));
        leavesAll("refused", EMPTY, NO_SUCH_VALUE, x -> x.wishAt(0, 0, 0), x -> x.ideal(0, 0), x -> x.best(1, 1, 0, 2),
            x -> x.shadow(0, 1, 1, 0, 0), x -> x.price(0, 1, 0, 1, 0));
        leavesAll("refused", EMPTY, NO_VALUE, x -> x.heldAt(0, 1, -999, 0));
        leavesAll("not ALLOWED", EMPTY, 0, x -> x.plan(5, 0, 0), x -> x.whole(0, 0, 0, 0), x -> x.all(0));
    }

    private static void refusedOfLine() {
        leavesAll("refused", LINE, -3, x -> x.weights(0, 0), x -> x.turn(0), x -> x.area(1));
        leavesAll("refused", LINE, -1, x -> x.behind(0), x -> x.needed(0), x -> x.ranked(0, 0), x -> x.problemIs(11),
            x -> x.plan(0, 1, 0));
        leavesAll("refused", LINE, NO_SUCH, x -> x.wish(0, 0), x -> x.plane(2, 0));
        leavesAll("refused", LINE, NO_SUCH_VALUE, x -> x.ideal(0, 0), x -> x.heldAt(0, 1, 0, 0), x -> x.wishAt(0, 0, 0),
            x -> x.shadow(0, 0, 0, 0, 0), x -> x.price(0, 1, 0, 1, 0));
    }

    /** A FAULT takes the tape, and nothing else. */
    private static void refusedTexts() {
        String[] problems = {"of:4", "of:3;wish:x;keep:x<100", "of:1;wish:x;box:x<0", "of:1;box:x<5;box:x<5", "of:1;wish:y",
            "of:2;least:3y+y", "of:3;keep:z<1;keep:z<2;keep:z<3;keep:z<4;keep:z<5",
            "of:3;wish:z;least:z;wish:x;box:x<1;box:y<1;box:z<1;keep:x-y>3;keep:x+y<1;least:z", "of:3;box:x<1;box:y<2;"};
        String[] laws = {"v", "v9(i=0", "x(1=1);v1(i=123456)", "x(1=1);x(((((((i=0)))))))", "x(1=1);v1(1=1);",
            "x(1=1)" + ";x(1=1)".repeat(16)};
        List<Long> kept = answersOf(KEPT, false);
        List<Long> now = answersOf(FULL, false);
        for (String text : problems) {
            prepared(FULL);
            d.x().check(0);
            d.due("4: a FAULT: " + text, d.problem(text) <= -1000 ? 1 : 0, 1);
            leavesAllButTheTape("4: " + text, now, kept);
        }
        for (String text : laws) {
            prepared(FULL);
            d.x().check(0);
            d.due("3: a FAULT: " + text, d.law(text) <= -1000 ? 1 : 0, 1);
            leavesAllButTheTape("3: " + text, now, kept);
        }
    }

    private static void leavesAllButTheTape(String call, List<Long> now, List<Long> kept) {
        d.due(call + " takes the tape", d.x().count(1), 0);
        same(call + " leaves PROBLEM and LAW", answers(), now);
        d.due(call + " leaves that one is KEPT", d.x().undo() ? 1 : 0, 1);
        same(call + " leaves what is KEPT", answers(), kept);
    }

    private static void refusedFeed() {
        d.fresh().problem(SQUARE);
        d.x().keep();
        d.law(LAW);
        d.feed(POINT + " ".repeat(260 - POINT.length()));
        List<Long> before = answers();
        d.due("2: more than 260", d.x().feed(0x61616161, 0x61616161, 0x61616161, 0x61616161, 0x61616161), -1);
        same("2: a refused feed leaves all", answers(), before);
        d.due("2: and what is on the tape", d.x().problem(POINT.length()), 1);
        d.fresh().feed("of:1" + "a".repeat(236) + ";box:x<5");
        d.x().feed(0, 0, 0, 0, 0);
        d.due("2: to the last byte", d.x().count(1), 260);
        d.fresh().feed(" ".repeat(240) + "of:1");
        d.x().feed(0x6f663a31, 0x6f663a31, 0x6f663a31, 0x6f663a31, 0x6f663a31);
        d.due("2: nothing of it comes ahead", d.x().problem(4), -1000);
    }

    private static void refusedUndo() {
        d.fresh().problem(SQUARE);
        d.law(LAW);
        d.feed(ON_TAPE);
        List<Long> before = answers();
        d.due("39: none was KEPT", d.x().undo() ? 1 : 0, 0);
        same("39: a refused undo leaves all", answers(), before);
        d.due("39: still none was KEPT", d.x().undo() ? 1 : 0, 0);
        d.due("39: and what is on the tape", d.x().problem(20), 4);
    }

    /** What only asks changes nothing either. */
    private static void questions() {
        leavesAll("asked", SQUARE, 5, x -> x.all(0), x -> x.best(1, 0, 0, 0) - 3, x -> x.heldAt(0, 1, 5, 0));
        leavesAll("asked", SQUARE, 2, x -> x.wishAt(2, 0, 0), x -> x.edge(2, 4), x -> x.cornerIs(0, 1), x -> x.plan(5, 5, 0),
            x -> x.face(0, 0), x -> x.reach(0, 4, false), x -> x.far(0, 1), x -> x.along(2, 4, 5), x -> x.regret(2),
            x -> x.ranked(0, 1), x -> x.walk(0, 1, 1, 0, 1), x -> x.behind(10), x -> x.ideal(0, 2));
        leavesAll("asked", SQUARE, 1, x -> x.weights(2, 2), x -> x.turn(200), x -> x.needed(0), x -> x.shadow(0, 1, 1, 0, 0),
            x -> x.gain(5, 5, 0, 1), x -> x.better(5, 5, 0, 1), x -> x.slack(0, 0, 1), x -> x.area(1), x -> x.wish(0, 0),
            x -> x.whole(1, 1, 0, 1) - 9, x -> -x.price(2, 4, 0, 1, 0), x -> x.middle(true, 1), x -> x.corner(0, 1));
        leavesAll("asked", SQUARE, 44, x -> x.spelt(2, 1), x -> x.chosen(1));
        leavesAll("asked", SQUARE, 20, x -> x.count(1));
        leavesAll("asked", FULL, 16, x -> x.all(0));
    }

    // Of several reasons.

    private static void reasons() {
        d.fresh();
        d.due("NONE ahead of -4: corner", d.x().corner(2, 2), -1);
        d.due("NONE ahead of -4: cornerIs", d.x().cornerIs(2, 6), -1);
        d.due("NONE ahead of -3: weights", d.x().weights(-1, 0), -1);
        d.due("NONE ahead of -3 and -4: weights", d.x().weights(2, 4), -1);
        d.due("-3 ahead of -4: weights", d.x().weights(2, 0), -3);
        d.due("NONE ahead of -3: turn", d.x().turn(100), -1);
        d.due("-3 ahead of -2: turn", d.x().turn(99), -3);
        d.due("NONE ahead of -3: area", d.x().area(2), -1);
        d.due("NONE ahead of -4: far", d.x().far(2, 2), -1);
        d.due("NONE ahead of -4: walk", d.x().walk(2, 0, 10, 0, 0), -1);
        d.due("NONE ahead of -4: walk", d.x().walk(2, 0, 0, 0, -1), -1);
        d.due("NONE ahead of -4: spelt", d.x().spelt(2, -1), -1);
        d.due("-4 ahead of -2: spelt", d.x().spelt(2, 99), -4);
        d.due("NONE ahead of -4: ranked", d.x().ranked(0, 99), -1);
        d.problem(SQUARE);
        d.due("NONE ahead of -4: weights", d.x().weights(5, 4), -1);
        d.due("NONE ahead of -2: weights", d.x().weights(0, 4), -1);
        d.due("-4: weights", d.x().weights(5, 3), -4);
        d.due("-2: weights", d.x().weights(0, 3), -2);
        d.due("NONE ahead of -2: gain", d.x().gain(9, 9, 0, 2), -1);
        d.due("NONE ahead of -2: gain", d.x().gain(9, 9, 1, 0), -1);
        d.due("NONE ahead of -2: better", d.x().better(9, 9, 0, 4), -1);
        d.due("NONE ahead of -2: better", d.x().better(9, 10, 0, 0), -1);
        d.due("NONE ahead of -4: ranked", d.x().ranked(2, 9), -1);
        d.due("no such ones ahead of no change: price", d.x().price(0, 1, 1, 0, 2), NO_SUCH_VALUE);
        d.due("no such ones ahead of no PLAN is: heldAt", d.x().heldAt(0, 1, 9, 2), NO_SUCH_VALUE);
        d.due("no such ones ahead of no PLAN is: heldAt", d.x().heldAt(0, 0, 9, 0), NO_SUCH_VALUE);
        d.problem(EMPTY);
        d.due("NONE ahead of -2: behind", d.x().behind(11), -1);
        d.due("NONE ahead of -2: middle", d.x().middle(true, 4), -1);
        d.due("NONE ahead of -2: regret", d.x().regret(3), -1);
        d.due("NONE ahead of -2: reach", d.x().reach(0, 0, true), -1);
        d.due("NONE ahead of -4: corner", d.x().corner(0, 4), -1);
        d.due("NONE ahead of -4: far", d.x().far(0, -1), -1);
        d.due("no such ones ahead of none: whole", d.x().whole(10, 0, 0, 0), NO_SUCH);
        d.due("no such ones ahead of nothing ALLOWED: shadow", d.x().shadow(0, 0, 0, 0, 0), NO_SUCH_VALUE);
        d.problem("of:3;wish:x");
        d.due("NONE ahead of -3: area", d.x().area(-1), -1);
        d.due("NONE ahead of -3: turn", d.x().turn(-1), -1);
        d.due("-3 ahead of -4: weights", d.x().weights(8, 0), -3);
        d.problem("of:1;wish:x;keep:x>9");
        d.due("no such ones ahead of nothing ALLOWED: shadow", d.x().shadow(0, 10, 0, 0, 0), NO_SUCH_VALUE);
        d.due("no such ones ahead of nothing ALLOWED: shadow", d.x().shadow(0, 0, 0, 0, 2), NO_SUCH_VALUE);
        d.due("nothing ALLOWED: shadow", d.x().shadow(0, 9, 9, 9, 0), NO_VALUE);
    }

    /** Whatever was told and asked before, a PROBLEM is as it is on a new object. */
    private static void inPlaceOfTheOneBefore() {
        String corners = ";keep:x+y+z<24;keep:x+y+z>3;keep:x-y-z<6;keep:y-x-z<6";
        String[] problems = {FULL, "of:3" + corners, "of:3;wish:x;least:x;wish:y" + corners, "of:3;least:x;least:y" + corners,
            SQUARE, EMPTY, POINT, LINE, "of:1;wish:x;least:x", "of:2;wish:3x-y;wish:3y-x;wish:x+y;box:x<4", "of:2",
            "of:3;wish:3x+2z;wish:3y+2z;keep:x+y+z<9", "of:2;least:x;wish:y;keep:y-3x<1;keep:y-x<3;keep:2y-x<8"};
        for (String then : problems) {
            d.fresh().problem(then);
            List<Long> due = broadly();
            for (String before : problems) {
                d.fresh().problem(before);
                broadly();
                d.problem(then);
                same("4: in place of the one before: " + before + ", then " + then, broadly(), due);
            }
        }
    }

    /** Some two hundred answers of all calls that ask. */
    private static List<Long> broadly() {
        List<Long> all = new ArrayList<>();
        d.law("vi+t*10+n*100+e*1000-a(b<9|c=0);x(i=99)");
        all.add((long) d.x().chosen(0));
        all.add((long) d.x().chosen(1));
        int last = d.x().all(0) - 1;
        for (int what = 1; what < 12; what++) {
            all.add((long) d.x().all(what));
        }
        for (int i : new int[] {0, 1, last - 1, last}) {
            for (int what = 0; what < 6; what++) {
                all.add((long) d.x().cornerIs(i, what));
                all.add((long) d.x().edge(i, last - what));
            }
            all.add((long) d.x().reach(0, i, true));
            all.add((long) d.x().reach(i, last, false));
            all.add((long) d.x().far(i, 0));
            all.add((long) d.x().far(i, 1));
            all.add((long) d.x().along(i, 0, 5));
            all.add((long) d.x().walk(i, 1, 2, 3, 0));
            all.add((long) d.x().walk(i, 1, 2, 3, 1));
            all.add((long) d.x().ranked(0, i));
            all.add(d.x().weights(i, 1));
            all.add(d.x().wishAt(i, 1, 0));
            all.add(d.x().slack(i, 1, 0));
            all.add(d.x().price(i, last, 0, 1, 0));
            all.add((long) d.x().spelt(i, 2));
        }
        for (int k = 0; k < 10; k++) {
            all.add((long) d.x().face(k, 0));
            all.add((long) d.x().face(k, 2));
            all.add((long) d.x().needed(k));
            all.add(d.x().turn(k));
            all.add(d.x().middle(k > 5, k % 6));
            all.add(d.x().better(1, 0, 0, k % 6));
        }
        for (int order : new int[] {0, 1, 10, 12, 120, 210}) {
            all.add((long) d.x().behind(order));
        }
        for (int what = 0; what < 3; what++) {
            all.add(d.x().best(3, 2, 1, what));
            all.add((long) d.x().whole(3, 2, 1, what));
            all.add(d.x().regret(what));
            all.add(d.x().ideal(0, what));
            all.add(d.x().ideal(1, what));
            all.add(d.x().shadow(0, 1, 1, 1, what));
            all.add(d.x().heldAt(0, 1, 2, what));
            all.add(d.x().area(what));
            all.add(d.x().gain(1, 1, 0, what));
            all.add((long) d.x().plan(what, 0, 0));
        }
        return all;
    }

    private static void ownMemory() {
        SeveralWishes other = new SeveralWishes();
        d.fresh().problem(FULL);
        d.law(LAW);
        d.x().keep();
        d.feed("of:1;box:x<4");
        d.due("own PROBLEM", other.problemIs(0), 1);
        d.due("own CORNERS", other.all(0), 2);
        d.due("own LAW", other.count(0), 0);
        d.due("own tape", other.count(1), 0);
        d.due("own KEPT", other.undo() ? 1 : 0, 0);
        other.keep();
        other.feed(0x6f663a32, 0, 0, 0, 0);
        d.due("own tape", other.problem(4), 4);
        d.due("own CORNERS", d.x().all(0), 16);
        d.due("own PLANES", d.x().plane(0, 3), 24);
        d.due("own tape", d.x().problem(12), 2);
        d.due("own CORNERS", other.all(0), 4);
        d.due("own KEPT", d.x().undo() ? d.x().all(0) : 0, 16);
        d.due("own KEPT", other.undo() ? other.all(0) : 0, 2);
        d.due("own LAW", d.x().count(0), 2);
    }

    private static void lastCall() {
        d.fresh();
        while (d.calls() < 480) {
            d.problem(FULL);
            d.law(LAW);
            d.x().keep();
            d.due("all calls up to the 512th", d.x().chosen(0), 9);
            d.x().undo();
        }
        while (d.calls() < 511) {
            d.x().feed(-1, -1, -1, -1, -1);
        }
        d.due("the 512th call", d.x().all(1), 24);
        d.due("512 calls", d.calls(), 512);
    }
}
