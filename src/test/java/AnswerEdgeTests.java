/**
 * Promises 5 to 37 and the Terms that belong to them, sentence by sentence: the last value that is allowed and the
 * first that is not, no CORNERS and as many as there can be, ties, ends. Each check begins with the promise.
 */
public final class AnswerEdgeTests {
    private interface Call {
        long ask(int value);
    }

    private static final Desk d = new Desk("AnswerEdgeTests");
    private static final int MANY = Integer.MAX_VALUE;
    private static final int FEW = Integer.MIN_VALUE;
    private static final int NONE = -1;
    private static final int NO_SUCH = -100000;
    private static final long NO_SUCH_VALUE = -100000000L;
    private static final long NO_VALUE = -99999999L;

    /** A cube with four ends cut off: three WISHES, four KEEPS, ten PLANES, sixteen CORNERS, as many as can be. */
    private static final String FULL = "of:3;wish:x;wish:y;wish:z;keep:x+y+z<24;keep:x+y+z>3;keep:x-y-z<6;keep:y-x-z<6";
    private static final int[][] FULL_CORNERS = {{0, 0, 3}, {0, 0, 9}, {0, 3, 0}, {0, 6, 0}, {0, 9, 3}, {0, 9, 9},
        {3, 0, 0}, {3, 9, 0}, {6, 0, 0}, {6, 9, 9}, {9, 0, 3}, {9, 0, 9}, {9, 3, 0}, {9, 6, 9}, {9, 9, 0}, {9, 9, 6}};
    /** CORNERS (0,0) (0,8) (2,8) (8,0) (8,2), of which 2 and 4 are EFFICIENT. */
    private static final String SQUARE = "of:2;wish:x;wish:y;keep:x+y<10;box:x<8;box:y<8";
    /** CORNERS (0,0) (0,9) (9,0) (9,9). */
    private static final String BOX = "of:2;wish:x;wish:y";
    private static final String EMPTY = "of:2;wish:x;wish:y;keep:x>5;keep:x<4";
    private static final String POINT = "of:2;wish:x;wish:y;keep:2x>5;keep:2x<5;keep:3y>7;keep:3y<7";

    public static void main(String[] args) {
        problemIs();
        wish();
        plane();
        corner();
        cornersInSpace();
        wishAt();
        cornerIs();
        edge();
        neighbours();
        all();
        efficientAndWeak();
        layers();
        faces();
        needed();
        weights();
        turn();
        ideal();
        best();
        behind();
        heldAt();
        plan();
        gainAndBetter();
        whole();
        shadow();
        slack();
        middle();
        reachAndFar();
        along();
        regret();
        area();
        ranked();
        price();
        walk();
        spelt();
        d.end();
    }

    /** Mostly to an object that has been told others, and asked about them. */
    private static void tell(String problem) {
        if (d.calls() > 150) {
            d.fresh();
        }
        d.due(problem + " stands", d.problem(problem) >= 0 ? 1 : 0, 1);
    }

    /** From least to most all is allowed, what is beyond is refused. */
    private static void range(String call, int least, int most, long refused, Call ask) {
        for (int value : new int[] {least, most}) {
            d.due(call + ": " + value + " is refused", ask.ask(value) == refused ? 1 : 0, 0);
        }
        none(call, refused, ask, least - 1, most + 1, MANY, FEW);
    }

    private static void none(String call, long refused, Call ask, int... values) {
        for (int value : values) {
            d.due(call + ": " + value, ask.ask(value), refused);
        }
    }

    private static void row(String call, Call ask, long... due) {
        for (int at = 0; at < due.length; at++) {
            d.due(call + ", " + at, ask.ask(at), due[at]);
        }
    }

    // What is told.

    private static void problemIs() {
        d.fresh();
        row("5: of a new object", v -> d.x().problemIs(v), 1, 0, 0, 2, NONE, NONE, NONE, NONE, NONE, NONE, 9, NONE);
        tell("of:1;box:x<1");
        row("5: the least", v -> d.x().problemIs(v), 1, 0, 0, 2);
        d.due("5: the least BOX", d.x().problemIs(10), 1);
        tell(FULL);
        row("5: the most", v -> d.x().problemIs(v), 3, 3, 4, 10);
        range("5: what 0 to 3", 0, 3, NONE, v -> d.x().problemIs(v));
        for (int n = 1; n <= 3; n++) {
            tell("of:" + n);
            range("5: 10 + q of " + n, 10, 9 + n, NONE, v -> d.x().problemIs(v));
        }
        none("5: no such what", NONE, v -> d.x().problemIs(v), 4, 9, 20, 200);
    }

    private static void wish() {
        String[] wishes = {"", ";wish:3x-3x", ";wish:x;least:x", ";wish:x;least:x;wish:-3x"};
        none("6: no WISHES", NO_SUCH, v -> d.fresh().x().wish(v, 0), 0, 1, -1, MANY, FEW);
        for (int m = 1; m <= 3; m++) {
            tell("of:1" + wishes[m]);
            range("6: WISH w of " + m, 0, m - 1, NO_SUCH, v -> d.x().wish(v, 0));
        }
        for (int n = 1; n <= 3; n++) {
            tell("of:" + n + ";wish:x");
            range("6: QUANTITY q of " + n, 0, n - 1, NO_SUCH, v -> d.x().wish(0, v));
        }
        tell("of:3;wish:3x-3y+z-z;least:3x-3y+2z");
        row("6: how often, 3 to -3", v -> d.x().wish(v / 3, v % 3), 3, -3, 0, -3, 3, -2);
    }

    private static void plane() {
        tell(FULL);
        int[][] planes = {{1, 1, 1, 24, 0}, {1, 1, 1, 3, 1}, {1, -1, -1, 6, 0}, {-1, 1, -1, 6, 0}, {1, 0, 0, 0, 2},
            {0, 1, 0, 0, 2}, {0, 0, 1, 0, 2}, {1, 0, 0, 9, 3}, {0, 1, 0, 9, 3}, {0, 0, 1, 9, 3}};
        for (int k = 0; k < 10; k++) {
            for (int what = 0; what < 5; what++) {
                d.due("7: PLANES: KEEPS, QUANTITIES, BOXES: " + k + ", " + what, d.x().plane(k, what), planes[k][what]);
            }
        }
        range("7: PLANE 0 to 9", 0, 9, NO_SUCH, v -> d.x().plane(v, 3));
        range("7: what 0 to 4", 0, 4, NO_SUCH, v -> d.x().plane(9, v));
        tell("of:1;box:x<1");
        range("7: PLANE 0 to 1", 0, 1, NO_SUCH, v -> d.x().plane(v, 4));
        d.due("7: the least BOX", d.x().plane(1, 3), 1);
        tell("of:2;keep:3x-3y>99;keep:y-y<0");
        row("7: the most of a KEEP", v -> d.x().plane(0, v), 3, -3, 0, 99, 1);
        row("7: the least of a KEEP", v -> d.x().plane(1, v), 0, 0, 0, 0, 0);
        range("7: PLANE 0 to 5", 0, 5, NO_SUCH, v -> d.x().plane(v, 4));
    }

    // CORNERS.

    private static void corner() {
        tell(FULL);
        for (int i = 0; i < 16; i++) {
            for (int q = 0; q < 3; q++) {
                d.due("8: numbered by x, then y, then z: " + i + ", " + q, d.x().corner(i, 2 * q), d.x().corner(i, 2 * q + 1),
                        FULL_CORNERS[i][q], 1);
            }
        }
        none("8: there are not so many", -4, v -> d.x().corner(v, 0), 16, 17, MANY);
        none("8: no such CORNER", NONE, v -> d.x().corner(v, 5), -1, FEW);
        for (int n = 1; n <= 3; n++) {
            tell("of:" + n);
            int last = 2 * n - 1;
            range("8: what 0 to " + last, 0, last, NONE, v -> d.x().corner(0, v));
            none("8: of the last CORNER", -4, v -> d.x().corner(v, last), 1 << n);
            d.due("8: the last one", d.x().corner((1 << n) - 1, last - 1), 9);
        }
        tell(EMPTY);
        none("8: no CORNERS", -4, v -> d.x().corner(v, 0), 0, 1, MANY);
        none("8: no CORNERS, no such what", NONE, v -> d.x().corner(0, v), -1, 4);
        tell(POINT);
        row("8: a fraction has no common divisor", v -> d.x().corner(0, v), 5, 2, 7, 3);
        d.due("8: just one", d.x().corner(1, 0), -4);
        tell("of:2;keep:3x+3y<9;keep:2x>0");
        row("8: 0 is 0 over 1", v -> d.x().corner(0, v), 0, 1, 0, 1);
        row("8: 3 is 3 over 1", v -> d.x().corner(1, v), 0, 1, 3, 1);
        tell("of:2;keep:3x+y<10;keep:2x-3y<3;keep:3x-y>1");
        row("8: by x, of unlike lower numbers", v -> d.x().corner(v / 4, v % 4), 1, 3, 0, 1, 3, 2, 0, 1, 11, 6, 9, 2,
                3, 1, 1, 1);
    }

    private static void cornersInSpace() {
        tell("of:3;keep:3x+2y-z<13;keep:2x+3y+z<17;keep:x-2y+3z>1;keep:2x-y+2z<11");
        String[] all = {"0,0,1/3", "0,0,11/2", "0,23/7,50/7", "0,50/11,37/11", "1,0,0", "8/3,10/3,5/3", "7/2,5/4,0",
            "19/5,11/5,14/5", "13/3,0,0", "37/8,0,7/8"};
        for (int i = 0; i < all.length; i++) {
            d.due("8: where KEEPS meet, by x", d.spelt(i), all[i]);
        }
        d.due("8: as many", d.x().all(0), all.length);
        tell("of:3;keep:x<0;keep:2y+3z<10;keep:3y+2z<11;keep:3z-y>1");
        String[] byY = {"0,0,1/3", "0,0,10/3", "0,13/5,8/5", "0,31/11,14/11"};
        for (int i = 0; i < byY.length; i++) {
            d.due("8: then by y, of unlike lower numbers", d.spelt(i), byY[i]);
        }
        d.due("8: as many", d.x().all(0), byY.length);
        for (String keeps : new String[] {"keep:2y+2z<7;keep:3z-y>10", "keep:3z-y>10;keep:2y+2z<7"}) {
            tell("of:3;keep:x<0;" + keeps);
            d.due("8: then by z, of unlike lower numbers", d.spelt(0), "0,0,10/3");
            d.due("8: then by z, of unlike lower numbers", d.spelt(1), "0,0,7/2");
        }
    }

    private static void wishAt() {
        tell(FULL);
        range("9: CORNER 0 to 15, not -4", 0, 15, NO_SUCH_VALUE, v -> d.x().wishAt(v, 0, 0));
        range("9: WISH 0 to 2", 0, 2, NO_SUCH_VALUE, v -> d.x().wishAt(0, v, 1));
        range("9: what 0, 1", 0, 1, NO_SUCH_VALUE, v -> d.x().wishAt(15, 2, v));
        none("9: no WISHES", NO_SUCH_VALUE, v -> d.fresh().x().wishAt(0, v, 0), 0, 1, -1);
        tell(EMPTY);
        none("9: no CORNERS", NO_SUCH_VALUE, v -> d.x().wishAt(v, 0, 0), 0, 1, -1);
        tell("of:3;wish:3x+3y+3z;least:3x+3y+3z;wish:2x-2x");
        row("9: the most, the least, 0 over 1", v -> d.x().wishAt(7, v / 2, v % 2), 81, 1, -81, 1, 0, 1);
        row("9: 0 over 1", v -> d.x().wishAt(0, v / 2, v % 2), 0, 1, 0, 1, 0, 1);
        tell("of:2;wish:2x-3y;wish:2x+3y;keep:2x>5;keep:2x<5;keep:3y>7;keep:3y<7");
        row("9: below 0, the upper number is", v -> d.x().wishAt(0, v / 2, v % 2), -2, 1, 12, 1);
        tell("of:2;least:x+y;keep:2x>5;keep:2x<5;keep:3y>7;keep:3y<7");
        row("9: a fraction below 0", v -> d.x().wishAt(0, 0, v), -29, 6);
    }

    private static void cornerIs() {
        tell(FULL);
        none("10: there are not so many", -4, v -> d.x().cornerIs(v, 0), 16, 17, MANY);
        none("10: no such CORNER", NONE, v -> d.x().cornerIs(v, 0), -1, FEW);
        range("10: what 0 to 5", 0, 5, NONE, v -> d.x().cornerIs(15, v));
        int[] tight = {1 << 1 | 1 << 4 | 1 << 5, 1 << 4 | 1 << 5 | 1 << 9, 1 << 1 | 1 << 4 | 1 << 6};
        row("10: TIGHT PLANES, bits", v -> d.x().cornerIs(v, 0), tight[0], tight[1], tight[2]);
        d.due("10: TIGHT PLANES of the last", d.x().cornerIs(15, 0), 1 << 7 | 1 << 8 | 1);
        for (int i = 0; i < 16; i++) {
            boolean is = i == 9 || i == 13 || i == 15;
            int edge = 0;
            for (int q = 0; q < 3; q++) {
                edge |= FULL_CORNERS[i][q] == 9 ? 1 : 0;
            }
            d.due("10: NEIGHBOURS of " + i, d.x().cornerIs(i, 1), 3);
            d.due("10: EFFICIENT " + i, d.x().cornerIs(i, 2), is ? 1 : 0);
            d.due("10: WEAK " + i, d.x().cornerIs(i, 3), edge);
            d.due("10: EFFICIENT EDGES at " + i, d.x().cornerIs(i, 5), is ? 2 : 0);
        }
        tell("of:3;keep:x-x<0;keep:y-y>0;keep:x+y+z>0;keep:x+y-z>0");
        d.due("10: as many TIGHT PLANES as can be", d.x().cornerIs(0, 0), 127);
        tell(POINT);
        row("10: one CORNER alone", v -> d.x().cornerIs(0, v), 15, 0, 1, 1, 0, 0);
        d.due("10: there is one", d.x().cornerIs(1, 0), -4);
        tell(EMPTY);
        none("10: no CORNERS", -4, v -> d.x().cornerIs(v, 5), 0, 1);
        none("10: no CORNERS, no such what", NONE, v -> d.x().cornerIs(0, v), -1, 6);
    }

    private static void edge() {
        tell(FULL);
        range("11: the first of two", 0, 14, NONE, v -> v == 15 ? d.x().edge(16, 15) : d.x().edge(v, 15));
        range("11: the second of two", 1, 15, NONE, v -> v == 0 ? d.x().edge(0, -1) : d.x().edge(0, v));
        for (int i = 0; i < 16; i++) {
            d.due("11: no two", d.x().edge(i, i), NONE);
        }
        d.due("11: NEIGHBOURS 1", d.x().edge(0, 1), 1);
        d.due("11: by an EFFICIENT EDGE 2", d.x().edge(13, 15), 2);
        d.due("11: not 0", d.x().edge(0, 15), 0);
        tell(POINT);
        none("11: one CORNER is no two", NONE, v -> d.x().edge(0, v), 0, 1, -1);
        tell(EMPTY);
        none("11: no CORNERS", NONE, v -> d.x().edge(0, v), 0, 1, -1);
    }

    private static void neighbours() {
        d.due("11: of one QUANTITY both are", d.fresh().x().edge(0, 1), 2);
        tell("of:3;keep:z<9");
        d.due("11: two PLANES in one place leave no line: (0,0,9) (9,9,9)", d.x().edge(1, 7), 0);
        d.due("11: a third one does: (0,0,9) (9,0,9)", d.x().edge(1, 5), 2);
        tell("of:3;keep:x-x<0;keep:y-y<0");
        d.due("11: what takes nothing leaves no line: across", d.x().edge(0, 3), 0);
        d.due("11: along", d.x().edge(0, 1), 2);
        tell("of:3;keep:x+y<18;keep:2x+2y+z>0");
        d.due("11: PLANES that just touch: the line (9,9,0) (9,9,9)", d.x().edge(6, 7), 2);
        d.due("11: CROWDED ones: (9,9,z) and (0,0,0)", d.x().all(11), 3);
        tell("of:2;keep:x+y<9;keep:x+y>9");
        d.due("11: of a line both ends are", d.x().edge(0, 1), 2);
        tell("of:2;keep:x-y<0;keep:y-x<0;keep:x+y<18");
        d.due("11: (0,0) (9,9)", d.x().edge(0, 1), 2);
        d.due("12: an EDGE", d.x().all(1), 1);
    }

    private static void all() {
        tell(FULL);
        range("12: what 0 to 11", 0, 11, NONE, v -> d.x().all(v));
        row("12: as many as can be", v -> d.x().all(v), 16, 24, 3, 3, 1, 5, 11, 10, 1, 3, 4, 0);
        tell(EMPTY);
        row("12: no CORNERS", v -> d.x().all(v), 0, 0, 0, 0, 0, 0, 0, 0, 0, 0, 2, 0);
        range("12: what 0 to 11, no CORNERS", 0, 11, NONE, v -> d.x().all(v));
        tell(POINT);
        row("12: one CORNER", v -> d.x().all(v), 1, 0, 1, 0, 1, 1, 1, 0, 0, 1, 4, 1);
        tell("of:3;keep:x<0;keep:y<0;keep:z<0");
        row("12: one CORNER without WISHES", v -> d.x().all(v), 1, 0, 1, 0, 1, 1, 1, 0, 0, 1, 3, 1);
        d.fresh();
        row("12: a new object", v -> d.x().all(v), 2, 1, 2, 1, 1, 1, 2, 0, 0, 1, 0, 0);
        tell("of:3;wish:x;least:x;keep:x+y+z<24;keep:x+y+z>3;keep:x-y-z<6;keep:y-x-z<6");
        row("12: each is EFFICIENT", v -> d.x().all(v), 16, 24, 16, 24, 1, 1, 16, 10, 10, 4, 4, 0);
        tell("of:1;keep:x<9;keep:x>0");
        d.due("12: CROWDED: more TIGHT PLANES than QUANTITIES", d.x().all(11), 2);
        d.due("12: NEEDED: none of these", d.x().all(10), 0);
        tell("of:1;keep:x<8;keep:x>1");
        d.due("12: CROWDED: as many are not more", d.x().all(11), 0);
        d.due("12: NEEDED: both of these", d.x().all(10), 2);
    }

    private static void efficientAndWeak() {
        tell("of:3");
        row("12: without WISHES each is, and WEAK, too", v -> d.x().all(v), 8, 12, 8, 12, 1, 1, 8, 6, 6, 1);
        d.due("18: without WISHES each PLAN is", d.x().plan(4, 5, 6), 2);
        d.due("30: without WISHES each PLAN is", d.x().along(0, 7, 5), 2);
        tell(BOX);
        row("10: each no less and one more: EFFICIENT", v -> d.x().cornerIs(v, 2), 0, 0, 0, 1);
        row("10: each more: WEAK", v -> d.x().cornerIs(v, 3), 0, 1, 1, 1);
        tell("of:2;wish:x");
        row("10: like ones are both EFFICIENT", v -> d.x().cornerIs(v, 2), 0, 0, 1, 1);
        row("10: of one WISH the like are WEAK", v -> d.x().cornerIs(v, 3), 0, 0, 1, 1);
        d.due("11: the EDGE between like ones", d.x().edge(2, 3), 2);
        tell("of:1;least:x");
        row("10: the least is EFFICIENT", v -> d.x().cornerIs(v, 2), 1, 0);
        d.due("18: what is inside can be less", d.x().plan(5, 0, 0), 1);
        d.due("30: what is inside can be less", d.x().along(0, 1, 5), 1);
        d.due("30: the last of tenths", d.x().along(1, 0, 10), 2);
        tell("of:2;wish:x-x");
        row("10: none can be more", v -> d.x().cornerIs(v, 2), 1, 1, 1, 1);
        tell("of:2;wish:x-x;wish:y");
        row("10: one can be more", v -> d.x().cornerIs(v, 2), 0, 1, 0, 1);
        row("10: but not each", v -> d.x().cornerIs(v, 3), 1, 1, 1, 1);
        tell("of:3;wish:3x+2z;wish:3y+2z;keep:x+y+z<9");
        d.due("11: both ends EFFICIENT, the middle not", d.x().edge(2, 3), 1);
        d.due("10: the ends", d.x().cornerIs(2, 2), 1);
        d.due("10: the ends", d.x().cornerIs(3, 2), 1);
        d.due("21: ends EFFICIENT, the middle of the FACE not", d.x().face(0, 2), 0);
        d.due("12: HANGING TOGETHER by the third one", d.x().all(4), 1);
        tell("of:3;wish:x;wish:y;wish:z;keep:x+y+z<9");
        d.due("21: the middle of the FACE is", d.x().face(0, 2), 1);
        tell("of:3;wish:x;wish:2x");
        row("12: EFFICIENT VALUES: like rows once", v -> d.x().all(v), 8, 12, 4, 4, 1, 2, 4, 6, 1, 1);
    }

    private static void layers() {
        tell("of:2;wish:x+2y");
        row("10: LAYERS, each its own", v -> d.x().cornerIs(v, 4), 3, 1, 2, 0);
        d.due("12: LAYERS", d.x().all(5), 4);
        tell("of:1;least:x;box:x<1");
        row("10: CORNER 0 is better, by one", v -> d.x().cornerIs(v, 4), 0, 1);
        tell("of:2;wish:x-x");
        row("10: like ones are in one LAYER", v -> d.x().cornerIs(v, 4), 0, 0, 0, 0);
        tell(BOX);
        row("10: LAYERS", v -> d.x().cornerIs(v, 4), 2, 1, 1, 0);
        tell("of:3;wish:3x+z;wish:3y+z;keep:x+y+z<9");
        row("10: by CORNERS alone: none is better than 1", v -> d.x().cornerIs(v, 4), 1, 0, 0, 0);
        row("10: a PLAN between them is", v -> d.x().cornerIs(v, 2), 0, 0, 1, 1);
        tell(FULL);
        row("10: those that are so of the others", v -> d.x().cornerIs(v, 4), 3, 2, 4, 3, 2, 1, 4, 2, 3, 0, 2, 1, 2, 0, 1, 0);
        tell("of:3;wish:2x-y-z;wish:2y-x-z;wish:2z-x-y;keep:x+y+z<9;keep:x+y+z>1");
        d.due("12: LAYERS: no less and one more", d.x().all(5), 1);
    }

    private static void faces() {
        tell(FULL);
        range("21: PLANE 0 to 9", 0, 9, NONE, v -> d.x().face(v, 0));
        range("21: what 0 to 2", 0, 2, NONE, v -> d.x().face(9, v));
        row("21: CORNERS on it", v -> d.x().face(v, 0), 3, 3, 3, 3, 6, 6, 7, 6, 6, 5);
        row("21: it is a FACE", v -> d.x().face(v, 1), 1, 1, 1, 1, 1, 1, 1, 1, 1, 1);
        row("21: EFFICIENT", v -> d.x().face(v, 2), 1, 0, 0, 0, 0, 0, 0, 0, 0, 0);
        tell("of:3;wish:x;wish:y;wish:z;keep:x+y+z<9");
        row("21: an EDGE of it is not all of it", v -> d.x().face(v, 2), 1, 0, 0, 0, 0, 0, 0);
        row("21: yet a FACE", v -> d.x().face(v, 1), 1, 1, 1, 1, 0, 0, 0);
        tell("of:3;keep:x+y+z<9");
        row("21: three CORNERS or more", v -> d.x().face(v, 0), 3, 3, 3, 3, 1, 1, 1);
        row("21: it is a FACE", v -> d.x().face(v, 1), 1, 1, 1, 1, 0, 0, 0);
        tell("of:3;keep:x+y<18;keep:x+y+z<27");
        row("21: two CORNERS, one", v -> d.x().face(v, 0), 2, 1, 4, 4, 4, 4, 4, 4);
        row("21: are no FACE", v -> d.x().face(v, 1), 0, 0, 1);
        row("21: no FACE: not EFFICIENT", v -> d.x().face(v, 2), 0, 0, 1);
        tell("of:3;keep:z<9;keep:2z<18");
        d.due("12: PLANES in one place are each one", d.x().all(7), 8);
        tell("of:3;keep:x-x<0;keep:y-y>0");
        d.due("12: of a SUM by which nothing is taken, its number 0", d.x().all(7), 8);
        d.due("21: all CORNERS lie on it", d.x().face(1, 0), 8);
        tell("of:3;keep:x-x<1");
        d.due("12: its number is not 0", d.x().all(7), 6);
        d.due("21: no CORNER lies on it", d.x().face(0, 0), 0);
        tell("of:3;keep:z<0");
        d.due("12: what is flat has two", d.x().all(7), 2);
        tell("of:3;wish:x;keep:y<0;keep:z<0;keep:x-x<0");
        d.due("12: in a line: none", d.x().all(7), 0);
        d.due("21: two CORNERS", d.x().face(2, 0), 2);
        tell("of:2;keep:x-x<0");
        d.due("12: of two QUANTITIES none", d.x().all(7), 0);
        row("21: of two QUANTITIES none", v -> d.x().face(0, v), 4, 0, 0);
        tell(EMPTY);
        row("21: no CORNERS", v -> d.x().face(0, v), 0, 0, 0);
        range("21: PLANE 0 to 5, no CORNERS", 0, 5, NONE, v -> d.x().face(v, 0));
        tell("of:1");
        range("21: PLANE 0 to 1", 0, 1, NONE, v -> d.x().face(v, 1));
        row("21: of one QUANTITY", v -> d.x().face(1, v), 1, 0, 0);
    }

    private static void needed() {
        tell(FULL);
        range("22: KEEP 0 to 3", 0, 3, NONE, v -> d.x().needed(v));
        none("22: no KEEPS", NONE, v -> d.fresh().x().needed(v), 0, 1, -1, MANY, FEW);
        tell("of:1;keep:x<8;keep:x>1");
        row("22: both", v -> d.x().needed(v), 1, 1);
        tell("of:1;keep:x<9;keep:x>0;keep:x<99;keep:x-x<0");
        row("22: what QUANTITIES and BOXES keep is not", v -> d.x().needed(v), 0, 0, 0, 0);
        tell("of:2;keep:x+y<9;keep:2x+2y<18");
        row("22: one of two like ones is not", v -> d.x().needed(v), 0, 0);
        tell("of:2;keep:x+y<18;keep:x+y<17");
        row("22: one that just touches is not", v -> d.x().needed(v), 0, 1);
        tell(EMPTY);
        row("22: more PLANS than none", v -> d.x().needed(v), 1, 1);
        tell("of:1;keep:x-x>1;keep:x>10;keep:x<5");
        row("22: none without it, too", v -> d.x().needed(v), 0, 0, 0);
        tell("of:1;keep:x-x>1");
        d.due("22: by which nothing is taken", d.x().needed(0), 1);
    }

    // WISHES.

    private static void weights() {
        tell(SQUARE);
        none("13: there are not so many CORNERS", -4, v -> d.x().weights(v, 0), 5, 6, MANY);
        none("13: no such CORNER", NONE, v -> d.x().weights(v, 0), -1, FEW);
        range("13: what 0 to 3", 0, 3, NONE, v -> d.x().weights(3, v));
        tell(BOX);
        row("13: there are none", v -> d.x().weights(0, v), -2, -2, -2, -2);
        row("13: 0 alone", v -> d.x().weights(1, v), 0, 1, 0, 1);
        row("13: 1 alone", v -> d.x().weights(2, v), 1, 1, 1, 1);
        row("13: 0 to 1", v -> d.x().weights(3, v), 0, 1, 1, 1);
        tell("of:2;wish:x-x;wish:y-y");
        row("13: none has more", v -> d.x().weights(0, v), 0, 1, 1, 1);
        tell("of:1;wish:3x;least:2x");
        row("13: no CORNER has more: like ones are good", v -> d.x().weights(0, v), 0, 1, 2, 5);
        row("13: from there on", v -> d.x().weights(1, v), 2, 5, 1, 1);
        tell("of:3;wish:2x+z;wish:2y+z;keep:x+y+z<9");
        row("13: in between: one share alone", v -> d.x().weights(1, v), 1, 2, 1, 2);
        tell("of:2;wish:2x;wish:y;keep:3x+y<12;keep:x+3y<12");
        row("13: the least, the greatest", v -> d.x().weights(1 + v / 4, v % 4), 0, 1, 1, 7, 1, 7, 3, 5, 3, 5, 1, 1);
        row("13: there are none", v -> d.x().weights(0, v), -2, -2, -2, -2);
        tell("of:3;wish:2x-2y;wish:2x+y+2z");
        row("13: the least that all leave", v -> d.x().weights(4, v), 1, 1, 1, 1);
        tell("of:1;wish:x;wish:x");
        row("13: as much less of both: none", v -> d.x().weights(0, v), -2, -2, -2, -2);
        row("13: all", v -> d.x().weights(1, v), 0, 1, 1, 1);
        d.due("13: no WISHES", d.fresh().x().weights(0, 0), -3);
        tell("of:1;wish:x");
        d.due("13: one WISH", d.x().weights(0, 0), -3);
        tell(FULL);
        d.due("13: three WISHES", d.x().weights(0, 0), -3);
        tell(EMPTY);
        d.due("13: no CORNERS", d.x().weights(0, 0), -4);
    }

    private static void turn() {
        tell(SQUARE);
        row("23: TURN 0, no TURN 1", v -> d.x().turn(v), 1, 2, -2, -2);
        d.due("23: how many", d.x().turn(200), 1);
        range("23: what 0 to 99", 0, 99, NONE, v -> d.x().turn(v));
        none("23: there are not so many", -2, v -> d.x().turn(v), 2, 3, 30, 98, 99);
        range("23: what 200", 200, 200, NONE, v -> d.x().turn(v));
        tell(BOX);
        d.due("23: above 0 and below 1: not at 0, not at 1", d.x().turn(200), 0);
        none("23: there are none", -2, v -> d.x().turn(v), 0, 1, 99);
        tell("of:1;wish:x;least:x");
        row("23: both are there", v -> d.x().turn(v), 1, 2, -2);
        tell("of:1;wish:x;least:3x");
        row("23: near 1", v -> d.x().turn(v), 3, 4, -2);
        tell("of:1;wish:3x;least:x");
        row("23: near 0", v -> d.x().turn(v), 1, 4, -2);
        String[] askew = {"of:2;wish:x;least:y", "of:2;least:x;wish:y", "of:2;least:x;least:y",
            "of:2;wish:x;wish:y;box:x<1;box:y<1"};
        for (String text : askew) {
            tell(text);
            d.due("23: not at 0, not at 1, not below the best: " + text, d.x().turn(200), 0);
            d.due("23: none: " + text, d.x().turn(0), -2);
        }
        tell("of:1;wish:x;least:x;box:x<1");
        row("23: unlike by one", v -> d.x().turn(v), 1, 2, -2);
        tell("of:1;least:x;wish:x;box:x<1");
        row("23: unlike by one", v -> d.x().turn(v), 1, 2, -2);
        tell("of:2;least:x;wish:y;keep:y-3x<1;keep:y-x<3;keep:2y-x<8");
        row("23: rising, however they are met", v -> d.x().turn(v), 1, 3, 1, 2, 3, 4, -2);
        d.fresh();
        tell("of:3;wish:2x+z;wish:2y+z;keep:x+y+z<9");
        d.due("23: three CORNERS at one share: once", d.x().turn(200), 1);
        row("23: three CORNERS at one share: once", v -> d.x().turn(v), 1, 2, -2);
        tell("of:2;wish:x;wish:x");
        d.due("23: CORNERS with like WISHES are as one", d.x().turn(200), 0);
        tell("of:2;wish:2x;wish:y;keep:3x+y<12;keep:x+3y<12");
        row("23: rising", v -> d.x().turn(v), 1, 7, 3, 5, -2, -2);
        tell(EMPTY);
        d.due("23: no CORNERS", d.x().turn(200), 0);
        none("23: no CORNERS", -2, v -> d.x().turn(v), 0, 99);
        tell(POINT);
        d.due("23: one CORNER", d.x().turn(200), 0);
        none("23: no WISHES", -3, v -> d.fresh().x().turn(v), 0, 99, 200);
        tell("of:1;wish:x");
        none("23: one WISH", -3, v -> d.x().turn(v), 0, 99, 200);
        tell(FULL);
        none("23: three WISHES", -3, v -> d.x().turn(v), 0, 99, 200);
    }

    private static void ideal() {
        tell(FULL);
        range("14: WISH 0 to 2", 0, 2, NO_SUCH_VALUE, v -> d.x().ideal(v, 0));
        range("14: what 0 to 3", 0, 3, NO_SUCH_VALUE, v -> d.x().ideal(2, v));
        row("14: IDEAL, WORST at an EFFICIENT CORNER", v -> d.x().ideal(0, v), 9, 1, 6, 1);
        none("14: no WISHES", NO_SUCH_VALUE, v -> d.fresh().x().ideal(v, 0), 0, 1, -1);
        tell(EMPTY);
        row("14: no CORNERS", v -> d.x().ideal(0, v), NO_SUCH_VALUE, NO_SUCH_VALUE, NO_SUCH_VALUE, NO_SUCH_VALUE);
        tell(POINT);
        row("14: one CORNER", v -> d.x().ideal(1, v), 7, 3, 7, 3);
        tell("of:1;wish:x;least:3x;keep:2x>3");
        row("14: WORST at the first", v -> d.x().ideal(0, v), 9, 1, 3, 2);
        row("14: below 0", v -> d.x().ideal(1, v), -9, 2, -27, 1);
        tell("of:1;wish:x-x");
        row("14: 0 over 1", v -> d.x().ideal(0, v), 0, 1, 0, 1);
    }

    private static void best() {
        tell(FULL);
        range("15: weights 0 to 9, the first", 0, 9, NO_SUCH_VALUE, v -> d.x().best(v, 0, 0, 0));
        range("15: weights 0 to 9, the second", 0, 9, NO_SUCH_VALUE, v -> d.x().best(0, v, 0, 1));
        range("15: weights 0 to 9, the third", 0, 9, NO_SUCH_VALUE, v -> d.x().best(0, 0, v, 2));
        range("15: what 0 to 2", 0, 2, NO_SUCH_VALUE, v -> d.x().best(9, 9, 9, v));
        row("15: the most", v -> d.x().best(9, 9, 9, v), 216, 1, 9);
        row("15: by nothing: 0, the lowest CORNER", v -> d.x().best(0, 0, 0, v), 0, 1, 0);
        row("15: the lowest of like ones", v -> d.x().best(1, 0, 0, v), 9, 1, 10);
        tell("of:3;wish:3x+3y+3z;wish:3x+3y+3z;wish:3x+3y+3z");
        row("15: as much as can be", v -> d.x().best(9, 9, 9, v), 2187, 1, 7);
        tell("of:3;least:3x+3y+3z;least:3x+3y+3z;least:3x+3y+3z;keep:x>9;keep:y>9;keep:z>9");
        row("15: as little as can be", v -> d.x().best(9, 9, 9, v), -2187, 1, 0);
        tell(SQUARE);
        row("15: a WISH that is not there is left aside", v -> d.x().best(2, 1, 9, v), 18, 1, 4);
        tell("of:2;wish:x");
        row("15: two that are not there", v -> d.x().best(2, 9, 9, v), 18, 1, 2);
        d.fresh();
        row("15: without WISHES", v -> d.x().best(9, 9, 9, v), 0, 1, 0);
        tell(EMPTY);
        row("15: no CORNERS", v -> d.x().best(1, 1, 0, v), NO_SUCH_VALUE, NO_SUCH_VALUE, NO_SUCH_VALUE);
        tell(POINT);
        row("15: a fraction", v -> d.x().best(1, 1, 0, v), 29, 6, 0);
    }

    private static void behind() {
        tell(FULL);
        for (int order = 0; order < 1000; order++) {
            int[] digits = {order / 100, order / 10 % 10, order % 10};
            int seen = 0;
            for (int digit : digits) {
                seen |= 1 << digit;
            }
            boolean once = seen == 7;
            if (d.calls() > 400) {
                tell(FULL);
            }
            d.due("16: each WISH once: " + order, d.x().behind(order) >= 0 ? 1 : 0, once ? 1 : 0);
        }
        tell(FULL);
        none("16: no such order", NONE, v -> d.x().behind(v), -1, -12, 1012, 1021, 10012, 333, MANY, FEW);
        int[][] orders = {{12, 15}, {21, 13}, {102, 15}, {120, 9}, {201, 13}, {210, 9}};
        for (int[] order : orders) {
            d.due("16: the first 100 times: " + order[0], d.x().behind(order[0]), order[1]);
        }
        tell(SQUARE);
        for (int order = -2; order < 130; order++) {
            int due = order == 1 ? 4 : order == 10 ? 2 : NONE;
            d.due("16: of two WISHES 10 times and one: " + order, d.x().behind(order), due);
        }
        tell("of:2;wish:y");
        for (int order = -2; order < 130; order++) {
            d.due("16: of one it, the lowest: " + order, d.x().behind(order), order == 0 ? 1 : NONE);
        }
        none("16: no WISHES", NONE, v -> d.fresh().x().behind(v), 0, 1, 10, 12, -1, MANY, FEW);
        tell(EMPTY);
        none("16: there are none", -2, v -> d.x().behind(v), 1, 10);
        none("16: no such order", NONE, v -> d.x().behind(v), 0, 2, 11, 100, -1, MANY, FEW);
        tell("of:1;least:x;box:x<1");
        d.due("16: CORNER 0, by one", d.x().behind(0), 0);
        tell("of:1;wish:x;box:x<1");
        d.due("16: CORNER 1, by one", d.x().behind(0), 1);
        tell("of:2;wish:x;wish:x-x");
        d.due("16: like in all: the lowest", d.x().behind(1), 2);
        d.due("16: like in all: the lowest", d.x().behind(10), 2);
    }

    private static void heldAt() {
        tell(SQUARE);
        range("17: k -999 to 999", -999, 999, NO_SUCH_VALUE, v -> d.x().heldAt(0, 1, v, 0));
        range("17: what 0, 1", 0, 1, NO_SUCH_VALUE, v -> d.x().heldAt(0, 1, 0, v));
        none("17: WISH w", NO_SUCH_VALUE, v -> d.x().heldAt(v, 1, 0, 0), -1, 1, 2, MANY, FEW);
        none("17: WISH v", NO_SUCH_VALUE, v -> d.x().heldAt(0, v, 0, 0), -1, 0, 2, MANY, FEW);
        d.due("17: being just there", d.x().heldAt(0, 1, 8, 0), 2);
        d.due("17: no PLAN is", d.x().heldAt(0, 1, 9, 0), NO_VALUE);
        d.due("17: no PLAN is, what 1", d.x().heldAt(0, 1, 999, 1), NO_VALUE);
        d.due("17: held by nothing", d.x().heldAt(0, 1, -999, 0), 8);
        d.due("17: held by nothing yet", d.x().heldAt(0, 1, 2, 0), 8);
        d.due("17: held by one more", d.x().heldAt(0, 1, 3, 0), 7);
        tell(FULL);
        range("17: WISH w 0 to 2", 0, 2, NO_SUCH_VALUE, v -> v == 1 ? 0 : d.x().heldAt(v, 1, 0, 0));
        range("17: WISH v 0 to 2", 0, 2, NO_SUCH_VALUE, v -> v == 1 ? 0 : d.x().heldAt(1, v, 0, 0));
        row("17: unlike", v -> d.x().heldAt(v, v, 0, 0), NO_SUCH_VALUE, NO_SUCH_VALUE, NO_SUCH_VALUE);
        tell("of:3;wish:3x+3y+3z;least:3x+3y+3z");
        d.due("17: the most", d.x().heldAt(1, 0, 81, 0), -81);
        d.due("17: above it", d.x().heldAt(1, 0, 82, 0), NO_VALUE);
        d.due("17: the least", d.x().heldAt(0, 1, -81, 0), 81);
        row("17: 0 over 1", v -> d.x().heldAt(0, 1, 0, v), 0, 1);
        d.due("17: above 0", d.x().heldAt(0, 1, 1, 0), NO_VALUE);
        tell("of:2;wish:x;wish:2y;keep:2x+3y<12");
        row("17: a fraction", v -> d.x().heldAt(0, 1, 7, v), 3, 4);
        tell(EMPTY);
        d.due("17: no PLAN is", d.x().heldAt(0, 1, -999, 0), NO_VALUE);
        none("17: no WISHES", NO_SUCH_VALUE, v -> d.fresh().x().heldAt(v, 1 - v, 0, 0), 0, 1);
        tell("of:1;wish:x");
        none("17: one WISH", NO_SUCH_VALUE, v -> d.x().heldAt(v, 1 - v, 0, 0), 0, 1);
    }

    // PLANS.

    private static void plan() {
        for (int n = 1; n <= 3; n++) {
            tell("of:" + n);
            int of = n;
            range("18: x 0 to 9", 0, 9, NONE, v -> d.x().plan(v, 0, 0));
            range("18: y 0 to 9, not there 0", 0, of > 1 ? 9 : 0, NONE, v -> d.x().plan(0, v, 0));
            range("18: z 0 to 9, not there 0", 0, of > 2 ? 9 : 0, NONE, v -> d.x().plan(0, 0, v));
            range("19: x 0 to 9", 0, 9, NONE, v -> d.x().gain(v, 0, 0, 1));
            range("19: y 0 to 9, not there 0", 0, of > 1 ? 9 : 0, NONE, v -> d.x().gain(0, v, 0, 1));
            range("19: z 0 to 9, not there 0", 0, of > 2 ? 9 : 0, NONE, v -> d.x().gain(0, 0, v, 1));
            range("20: x 0 to 9", 0, 9, NONE, v -> d.x().better(v, 0, 0, 1));
            range("20: y 0 to 9, not there 0", 0, of > 1 ? 9 : 0, NONE, v -> d.x().better(0, v, 0, 1));
            range("20: z 0 to 9, not there 0", 0, of > 2 ? 9 : 0, NONE, v -> d.x().better(0, 0, v, 1));
            range("19: what 0, 1", 0, 1, NONE, v -> d.x().gain(0, 0, 0, v));
            range("20: what 0 to " + (2 * of - 1), 0, 2 * of - 1, NONE, v -> d.x().better(0, 0, 0, v));
        }
        tell("of:3;wish:x;wish:y;wish:z;keep:x+y+z<24;keep:x+y+z>3;box:x<8");
        int[][] plans = {{8, 7, 9, 2}, {8, 8, 9, 0}, {9, 0, 0, 0}, {8, 0, 0, 1}, {0, 0, 3, 1}, {0, 0, 2, 0}, {6, 9, 9, 2},
            {6, 9, 8, 1}, {7, 9, 9, 0}};
        for (int[] p : plans) {
            d.due("18: KEEPS and BOX all hold: " + p[0] + p[1] + p[2], d.x().plan(p[0], p[1], p[2]), p[3]);
            d.due("19: not ALLOWED -2", d.x().gain(p[0], p[1], p[2], 1) == -2 ? 1 : 0, p[3] == 0 ? 1 : 0);
            d.due("20: not ALLOWED -2", d.x().better(p[0], p[1], p[2], 5) == -2 ? 1 : 0, p[3] == 0 ? 1 : 0);
        }
        tell(EMPTY);
        d.due("18: nothing is ALLOWED", d.x().plan(5, 0, 0), 0);
        d.due("19: nothing is ALLOWED", d.x().gain(5, 0, 0, 0), -2);
        d.due("20: nothing is ALLOWED", d.x().better(5, 0, 0, 0), -2);
        tell("of:2;wish:x;least:x;keep:x>0");
        d.due("18: inside, yet EFFICIENT", d.x().plan(5, 5, 0), 2);
    }

    private static void gainAndBetter() {
        tell("of:2;wish:x+y;keep:x+y<10");
        row("19: of an EFFICIENT one 0 over 1", v -> d.x().gain(5, 5, 0, v), 0, 1);
        row("20: of like ones the one least by x", v -> d.x().better(5, 5, 0, v), 1, 1, 9, 1);
        row("19: the greatest sum", v -> d.x().gain(0, 0, 0, v), 10, 1);
        tell("of:3;wish:x+y+z;keep:x+y+z<10;keep:x>1");
        row("20: least by x, then y, then z", v -> d.x().better(5, 0, 0, v), 1, 1, 0, 1, 9, 1);
        tell("of:3;wish:x");
        row("20: then y, then z", v -> d.x().better(5, 5, 5, v), 9, 1, 0, 1, 0, 1);
        row("19: of what each WISH is more", v -> d.x().gain(5, 5, 5, v), 4, 1);
        tell("of:3");
        row("19: without WISHES", v -> d.x().gain(5, 5, 5, v), 0, 1);
        tell("of:2;wish:3x-y;wish:y;keep:x+y<9");
        row("19: with each WISH no less", v -> d.x().gain(1, 4, 0, v), 12, 1);
        row("20: with each WISH no less", v -> d.x().better(1, 4, 0, v), 5, 1, 4, 1);
        tell("of:2;wish:x;least:y;keep:3x-3y<1");
        row("19: no other one is", v -> d.x().gain(2, 3, 0, v), 4, 3);
        row("20: of like ones the least with each WISH no less", v -> d.x().better(2, 3, 0, v), 2, 1, 5, 3);
        tell("of:3;wish:2x+y-z;wish:3z-y;least:y+z;keep:x+y+z<12");
        row("19: of z, too", v -> d.x().gain(2, 1, 4, v), 40, 3);
        row("20: of z, too", v -> d.x().better(2, 1, 4, v), 25, 3, 0, 1, 11, 3);
        tell("of:3;wish:3x+3y+3z;wish:3x+3y+3z;wish:3x+3y+3z");
        row("19: as much as can be", v -> d.x().gain(0, 0, 0, v), 243, 1);
    }

    private static void whole() {
        tell(FULL);
        range("24: weights 0 to 9, the first", 0, 9, NO_SUCH, v -> d.x().whole(v, 0, 0, 0));
        range("24: weights 0 to 9, the second", 0, 9, NO_SUCH, v -> d.x().whole(0, v, 0, 1));
        range("24: weights 0 to 9, the third", 0, 9, NO_SUCH, v -> d.x().whole(0, 0, v, 2));
        range("24: what 0 to 2", 0, 2, NO_SUCH, v -> d.x().whole(0, 0, 0, v));
        tell("of:3;wish:3x+3y+3z;wish:3x+3y+3z;wish:3x+3y+3z");
        row("24: all there can be, the last", v -> d.x().whole(9, 9, 9, v), 1000, 2187, 999);
        row("24: by nothing the first", v -> d.x().whole(0, 0, 0, v), 1000, 0, 0);
        tell("of:3;least:3x+3y+3z;wish:3x-3x;keep:x>9;keep:y>9;keep:z>9");
        row("24: just one, as little as can be", v -> d.x().whole(9, 9, 0, v), 1, -729, 999);
        d.fresh();
        row("24: of one QUANTITY, without WISHES", v -> d.x().whole(9, 9, 9, v), 10, 0, 0);
        tell("of:1;wish:x;box:x<1");
        row("24: 100 x", v -> d.x().whole(1, 9, 9, v), 2, 1, 100);
        tell("of:2;wish:x+y;keep:x+y<10");
        row("24: the first by x, y, z: 10 y", v -> d.x().whole(1, 0, 0, v), 64, 10, 190);
        tell("of:3;wish:x+y+z;keep:x+y+z<10;keep:z<8");
        row("24: the first by x, y, z", v -> d.x().whole(1, 0, 0, v), 280, 10, 28);
        tell("of:3;wish:2x+3y-z;least:x-2y;keep:x+y+z<14");
        row("24: of x, y and z unlike", v -> d.x().whole(2, 3, 0, v), 575, 113, 590);
        tell("of:3;wish:3z-2y-x");
        row("24: of x, y and z unlike", v -> d.x().whole(1, 0, 0, v), 1000, 27, 9);
        tell(POINT);
        row("24: there are none, what 0: 0", v -> d.x().whole(1, 1, 1, v), 0, NO_SUCH, NO_SUCH);
        tell(EMPTY);
        row("24: no CORNERS", v -> d.x().whole(1, 1, 1, v), 0, NO_SUCH, NO_SUCH);
        none("24: none, no such what", NO_SUCH, v -> d.x().whole(1, 1, 1, v), -1, 3);
        none("24: none, no such weight", NO_SUCH, v -> d.x().whole(v, 0, 0, 0), -1, 10);
    }

    private static void shadow() {
        tell(FULL);
        range("25: KEEP 0 to 3", 0, 3, NO_SUCH_VALUE, v -> d.x().shadow(v, 1, 1, 1, 0));
        range("25: weights 0 to 9, the first", 0, 9, NO_SUCH_VALUE, v -> d.x().shadow(0, v, 0, 0, 0));
        range("25: weights 0 to 9, the second", 0, 9, NO_SUCH_VALUE, v -> d.x().shadow(3, 0, v, 0, 0));
        range("25: weights 0 to 9, the third", 0, 9, NO_SUCH_VALUE, v -> d.x().shadow(3, 0, 0, v, 1));
        range("25: what 0, 1", 0, 1, NO_SUCH_VALUE, v -> d.x().shadow(3, 9, 9, 9, v));
        row("25: all of them", v -> d.x().shadow(v, 9, 9, 9, 0), 9, 0, 0, 0);
        none("25: no KEEPS", NO_SUCH_VALUE, v -> d.fresh().x().shadow(v, 0, 0, 0, 0), 0, 1, -1);
        tell("of:1;wish:x;keep:x<8;keep:x>0");
        row("25: a number more", v -> d.x().shadow(0, 1, 9, 9, v), 1, 1);
        row("25: no less by one does nothing", v -> d.x().shadow(1, 1, 0, 0, v), 0, 1);
        tell("of:1;wish:x;keep:x<9;keep:x<99;keep:3x<8");
        row("25: the BOX is tighter, 99 is 100", v -> d.x().shadow(v, 1, 0, 0, 0), 0, 0, 1);
        row("25: a fraction", v -> d.x().shadow(2, 1, 0, 0, v), 1, 3);
        tell("of:1;least:x;keep:x>8;keep:x-x<0");
        row("25: below 0", v -> d.x().shadow(0, 2, 0, 0, v), -2, 1);
        tell("of:1;wish:x;keep:x>9;keep:x-x>0");
        row("25: nothing were ALLOWED then", v -> d.x().shadow(0, 1, 0, 0, v), NO_VALUE, NO_VALUE);
        row("25: nothing were ALLOWED by what takes nothing", v -> d.x().shadow(1, 0, 0, 0, v), NO_VALUE, NO_VALUE);
        tell("of:1;wish:x;keep:x>5;keep:x<4");
        row("25: no CORNERS, also where some were then", v -> d.x().shadow(v, 1, 0, 0, 0), NO_SUCH_VALUE, NO_SUCH_VALUE);
    }

    // CORNERS among each other.

    private static void slack() {
        tell(FULL);
        range("26: CORNER 0 to 15, not -4", 0, 15, NONE, v -> d.x().slack(v, 0, 0));
        range("26: PLANE 0 to 9", 0, 9, NONE, v -> d.x().slack(0, v, 1));
        range("26: what 0, 1", 0, 1, NONE, v -> d.x().slack(15, 9, v));
        row("26: how far, to either side", v -> d.x().slack(0, v, 0), 21, 0, 9, 9, 0, 0, 3, 9, 9, 6);
        row("26: lower numbers", v -> d.x().slack(0, v, 1), 1, 1, 1, 1, 1, 1, 1, 1, 1, 1);
        tell(POINT);
        row("26: a fraction", v -> d.x().slack(0, v / 2 + 4, v % 2), 5, 2, 7, 3, 13, 2, 20, 3);
        tell("of:3;keep:-3x-3y-3z<99");
        d.due("26: as far as can be", d.x().slack(7, 0, 0), 180);
        tell(EMPTY);
        none("26: no CORNERS", NONE, v -> d.x().slack(v, 0, 0), 0, 1, -1);
    }

    private static void middle() {
        for (int n = 1; n <= 3; n++) {
            tell("of:" + n);
            int last = 2 * n - 1;
            range("27: what 0 to " + last, 0, last, NONE, v -> d.x().middle(false, v));
            range("27: of EFFICIENT ones, what 0 to " + last, 0, last, NONE, v -> d.x().middle(true, v));
        }
        tell(FULL);
        row("27: of sixteen", v -> d.x().middle(false, v), 9, 2, 9, 2, 15, 4);
        row("27: of three", v -> d.x().middle(true, v), 8, 1, 8, 1, 8, 1);
        tell(POINT);
        row("27: of one", v -> d.x().middle(false, v), 5, 2, 7, 3, NONE);
        row("27: of one", v -> d.x().middle(true, v), 5, 2, 7, 3, NONE);
        tell(EMPTY);
        row("27: there are none", v -> d.x().middle(false, v), -2, -2, -2, -2, NONE);
        row("27: there are none", v -> d.x().middle(true, v), -2, -2, -2, -2, NONE);
        tell("of:1;wish:x;keep:x<0");
        row("27: 0 is 0 over 1", v -> d.x().middle(true, v), 0, 1);
    }

    private static void reachAndFar() {
        tell(FULL);
        range("28: the first CORNER 0 to 15", 0, 15, NONE, v -> d.x().reach(v, 0, false));
        range("28: the second CORNER 0 to 15", 0, 15, NONE, v -> d.x().reach(0, v, true));
        for (int i = 0; i < 16; i++) {
            d.due("28: itself 0", d.x().reach(i, i, true), 0);
            d.due("28: itself 0", d.x().reach(i, i, false), 0);
        }
        d.due("28: there is no way", d.x().reach(0, 1, true), -2);
        d.due("28: there is no way to an EFFICIENT one", d.x().reach(10, 13, true), -2);
        d.due("28: one", d.x().reach(9, 15, true), 1);
        d.due("28: by all", d.x().reach(0, 1, false), 1);
        none("29: there are not so many", -4, v -> d.x().far(v, 0), 16, 17, MANY);
        none("29: no such CORNER", NONE, v -> d.x().far(v, 0), -1, FEW);
        range("29: what 0, 1", 0, 1, NONE, v -> d.x().far(15, v));
        tell(SQUARE);
        row("29: of like ones the lowest", v -> d.x().far(0, v), 2, 2);
        row("29: of the last", v -> d.x().far(4, v), 0, 2);
        tell(POINT);
        row("29: there is itself alone", v -> d.x().far(0, v), 0, 0);
        d.due("29: there is one", d.x().far(1, 0), -4);
        d.due("28: itself alone", d.x().reach(0, 0, true), 0);
        tell(EMPTY);
        none("29: no CORNERS", -4, v -> d.x().far(v, 1), 0, 1);
        none("28: no CORNERS", NONE, v -> d.x().reach(v, v, true), 0, 1, -1);
        tell("of:3;keep:x+y+z<9");
        row("29: all are one away: not itself", v -> d.x().far(0, v), 1, 1);
        row("29: the lowest", v -> d.x().far(1, v), 0, 1);
    }

    private static void along() {
        tell(FULL);
        range("30: the first CORNER 0 to 15", 0, 15, NONE, v -> d.x().along(v, 0, 5));
        range("30: the second CORNER 0 to 15", 0, 15, NONE, v -> d.x().along(0, v, 5));
        range("30: tenths 0 to 10", 0, 10, NONE, v -> d.x().along(15, 0, v));
        row("30: from an EFFICIENT one: there at 0 alone", v -> d.x().along(15, 0, v), 2, 1, 1, 1, 1, 1, 1, 1, 1, 1, 1);
        row("30: to an EFFICIENT one: there at 10 alone", v -> d.x().along(0, 15, v), 1, 1, 1, 1, 1, 1, 1, 1, 1, 1, 2);
        row("30: along an EFFICIENT EDGE", v -> d.x().along(9, 15, v), 2, 2, 2, 2, 2, 2, 2, 2, 2, 2, 2);
        row("30: to itself", v -> d.x().along(13, 13, v), 2, 2, 2, 2, 2, 2, 2, 2, 2, 2, 2);
        row("30: to itself, that is not", v -> d.x().along(3, 3, v), 1, 1, 1, 1, 1, 1, 1, 1, 1, 1, 1);
        tell("of:3;wish:3x+2z;wish:3y+2z;keep:x+y+z<9");
        row("30: the ends alone", v -> d.x().along(2, 3, v), 2, 1, 1, 1, 1, 1, 1, 1, 1, 1, 2);
        tell("of:3;wish:x;least:x");
        row("30: no NEIGHBOURS", v -> d.x().along(0, 7, v), 2, 2, 2, 2, 2, 2, 2, 2, 2, 2, 2);
        tell(EMPTY);
        none("30: no CORNERS", NONE, v -> d.x().along(v, v, 0), 0, 1, -1);
    }

    private static void regret() {
        tell(FULL);
        range("31: what 0 to 2", 0, 2, NONE, v -> d.x().regret(v));
        row("31: the least, the lowest with it", v -> d.x().regret(v), 3, 1, 9);
        tell(BOX);
        row("31: none at all", v -> d.x().regret(v), 0, 1, 3);
        d.fresh();
        row("31: without WISHES", v -> d.x().regret(v), 0, 1, 0);
        tell("of:1;wish:x;least:x");
        row("31: the most, over WISHES", v -> d.x().regret(v), 9, 1, 0);
        tell(EMPTY);
        row("31: there are none", v -> d.x().regret(v), -2, -2, -2, NONE);
        tell(POINT);
        row("31: one CORNER", v -> d.x().regret(v), 0, 1, 0, NONE);
        tell("of:2;wish:x;wish:y;keep:2x+2y<9");
        row("31: a fraction", v -> d.x().regret(v), 9, 2, 0);
    }

    private static void area() {
        tell("of:2");
        row("32: as much as can be", v -> d.x().area(v), 162, 1);
        range("32: what 0, 1", 0, 1, NONE, v -> d.x().area(v));
        tell("of:2;keep:x+y<9;keep:x+y>9");
        row("32: of a line 0 over 1", v -> d.x().area(v), 0, 1, NONE);
        tell(POINT);
        row("32: of a point 0 over 1", v -> d.x().area(v), 0, 1, NONE);
        tell(EMPTY);
        row("32: of nothing 0 over 1", v -> d.x().area(v), 0, 1, NONE);
        tell("of:2;keep:2x+2y<1");
        row("32: a fraction", v -> d.x().area(v), 1, 4);
        tell("of:2;keep:3x+y>5;keep:2x-3y<3;box:x<5;box:y<5");
        row("32: away from 0, askew", v -> d.x().area(v), 1106, 33);
        String[] askew = {"keep:3x+3y>7;keep:y<29;keep:2y>0", "keep:-2x+3y<17;keep:x>5;keep:x+3y<27",
            "keep:-2x+3y>1;keep:-3x+2y>7;box:x<7;box:y<8", "keep:3x>2;keep:2x+3y<16;keep:2x+2y<19;box:x<1;box:y<6"};
        int[][] areas = {{1409, 9}, {160, 3}, {27, 2}, {86, 27}};
        for (int at = 0; at < 4; at++) {
            tell("of:2;" + askew[at]);
            row("32: askew: " + askew[at], v -> d.x().area(v), areas[at][0], areas[at][1], NONE);
        }
        tell("of:2;keep:x>3;keep:y>2;box:x<7;box:y<4");
        row("32: away from 0", v -> d.x().area(v), 16, 1);
        tell("of:1");
        row("32: one QUANTITY", v -> d.x().area(v), -3, -3, NONE);
        tell("of:3;keep:z<0");
        row("32: three QUANTITIES", v -> d.x().area(v), -3, -3, NONE);
    }

    private static void ranked() {
        tell("of:3;wish:x;least:x;wish:y-y;keep:x+y+z<24;keep:x+y+z>3;keep:x-y-z<6;keep:y-x-z<6");
        row("33: the most first, of like ones the lowest", v -> d.x().ranked(0, v), 10, 11, 12, 13, 14, 15, 8, 9, 6, 7, 0, 1,
                2, 3, 4, 5, -4);
        row("33: by the other one", v -> d.x().ranked(1, v), 0, 1, 2, 3, 4, 5, 6, 7, 8, 9, 10, 11, 12, 13, 14, 15, -4);
        row("33: all alike", v -> d.x().ranked(2, v), 0, 1, 2, 3, 4, 5, 6, 7, 8, 9, 10, 11, 12, 13, 14, 15, -4);
        range("33: WISH 0 to 2", 0, 2, NONE, v -> d.x().ranked(v, 0));
        none("33: there are not so many", -4, v -> d.x().ranked(0, v), 16, 17, MANY);
        none("33: no such ones", NONE, v -> d.x().ranked(0, v), -1, FEW);
        tell("of:1;wish:x;least:x;box:x<1");
        row("33: more by one", v -> d.x().ranked(0, v), 1, 0, -4);
        row("33: more by one", v -> d.x().ranked(1, v), 0, 1, -4);
        tell(FULL);
        row("33: EFFICIENT ones alone", v -> d.x().ranked(2, v), 9, 13, 15, -4);
        none("33: no WISHES", NONE, v -> d.fresh().x().ranked(v, 0), 0, 1, -1);
        tell(EMPTY);
        none("33: no CORNERS", -4, v -> d.x().ranked(0, v), 0, 1, MANY);
        none("33: no CORNERS, no such ones", NONE, v -> d.x().ranked(0, v), -1, FEW);
    }

    private static void price() {
        tell(FULL);
        range("34: the first CORNER", 0, 15, NO_SUCH_VALUE, v -> d.x().price(v, v == 15 ? 9 : 1, 0, 1, 0));
        range("34: the second CORNER", 0, 15, NO_SUCH_VALUE, v -> d.x().price(v == 15 ? 9 : 1, v, 0, 1, 0));
        none("34: WISH w", NO_SUCH_VALUE, v -> d.x().price(9, 15, v, 1, 0), -1, 1, 3, MANY, FEW);
        none("34: WISH v", NO_SUCH_VALUE, v -> d.x().price(9, 15, 0, v, 0), -1, 0, 3, MANY, FEW);
        range("34: what 0, 1", 0, 1, NO_SUCH_VALUE, v -> d.x().price(9, 15, 0, 2, v));
        row("34: from one to the other", v -> d.x().price(9, 15, 0, 2, v), -1, 1);
        d.due("34: WISH v does not change", d.x().price(9, 15, 0, 1, 0), NO_VALUE);
        row("34: WISH w does not change: 0 over 1", v -> d.x().price(9, 15, 1, 0, v), 0, 1);
        d.due("34: no NEIGHBOURS", d.x().price(0, 15, 0, 1, 0), NO_SUCH_VALUE);
        d.due("34: not from one to itself", d.x().price(9, 9, 0, 1, 0), NO_SUCH_VALUE);
        d.due("34: no NEIGHBOURS and no change", d.x().price(0, 5, 1, 0, 0), NO_SUCH_VALUE);
        tell("of:2;wish:2x;wish:3y;keep:2x+3y<12");
        row("34: below 0 the upper number is", v -> d.x().price(1, 2, 1, 0, v), -1, 1);
        row("34: the way back is the like", v -> d.x().price(2, 1, 1, 0, v), -1, 1);
        tell("of:2;wish:x+y;wish:3y;keep:2x+3y<12");
        row("34: a fraction", v -> d.x().price(1, 2, 0, 1, v), -1, 6);
        tell(EMPTY);
        none("34: no CORNERS", NO_SUCH_VALUE, v -> d.x().price(v, 1 - v, 0, 1, 0), 0, 1);
        none("34: no WISHES", NO_SUCH_VALUE, v -> d.fresh().x().price(v, 1 - v, 0, 1, 0), 0, 1);
    }

    private static void walk() {
        tell(FULL);
        none("35: there are not so many CORNERS", -4, v -> d.x().walk(v, 0, 0, 0, 0), 16, 17, MANY);
        none("35: no such CORNER", NONE, v -> d.x().walk(v, 0, 0, 0, 0), -1, FEW);
        range("35: weights 0 to 9, the first", 0, 9, NONE, v -> d.x().walk(15, v, 0, 0, 0));
        range("35: weights 0 to 9, the second", 0, 9, NONE, v -> d.x().walk(15, 0, v, 0, 1));
        range("35: weights 0 to 9, the third", 0, 9, NONE, v -> d.x().walk(0, 0, 0, v, 0));
        range("35: what 0, 1", 0, 1, NONE, v -> d.x().walk(0, 9, 9, 9, v));
        row("35: by nothing", v -> d.x().walk(0, 0, 0, 0, v), 0, 0);
        row("35: at the best already", v -> d.x().walk(9, 1, 1, 1, v), 9, 0);
        tell(SQUARE);
        row("35: of like ones the lowest", v -> d.x().walk(0, 1, 1, 0, v), 2, 2);
        row("35: if that is more: not if it is like", v -> d.x().walk(4, 1, 1, 0, v), 4, 0);
        row("35: a WISH that is not there is left aside", v -> d.x().walk(0, 0, 0, 9, v), 0, 0);
        tell("of:2;wish:x");
        row("35: the most of its NEIGHBOURS", v -> d.x().walk(0, 1, 0, 0, v), 2, 1);
        row("35: not on to a like one", v -> d.x().walk(2, 1, 0, 0, v), 2, 0);
        tell("of:2;wish:x+2y");
        row("35: to the most first", v -> d.x().walk(0, 1, 0, 0, v), 3, 2);
        tell("of:2;least:x;least:y");
        row("35: to CORNER 0", v -> d.x().walk(3, 1, 1, 0, v), 0, 2);
        row("35: of like ones the lowest", v -> d.x().walk(3, 1, 1, 9, v), 0, 2);
        tell("of:1;wish:x;box:x<1");
        row("35: more by one", v -> d.x().walk(0, 1, 0, 0, v), 1, 1);
        row("35: not by nothing", v -> d.x().walk(0, 0, 9, 9, v), 0, 0);
        tell(POINT);
        row("35: without NEIGHBOURS", v -> d.x().walk(0, 9, 9, 9, v), 0, 0);
        d.due("35: there is one", d.x().walk(1, 9, 9, 9, 0), -4);
        tell(EMPTY);
        none("35: no CORNERS", -4, v -> d.x().walk(v, 1, 1, 1, 0), 0, 1);
    }

    private static void spelt() {
        tell(POINT);
        row("37: byte at, behind its end", v -> d.x().spelt(0, v), '5', '/', '2', ',', '7', '/', '3', -2, -2);
        none("37: behind its end", -2, v -> d.x().spelt(0, v), 7, 8, 100, MANY);
        none("37: no such byte", NONE, v -> d.x().spelt(0, v), -1, FEW);
        none("37: there are not so many CORNERS", -4, v -> d.x().spelt(v, 0), 1, 2, MANY);
        none("37: no such CORNER", NONE, v -> d.x().spelt(v, 0), -1, FEW);
        d.fresh();
        row("37: one digit", v -> d.x().spelt(0, v), '0', -2);
        row("37: the last CORNER", v -> d.x().spelt(1, v), '9', -2);
        tell(EMPTY);
        none("37: no CORNERS", -4, v -> d.x().spelt(v, 0), 0, 1);
        tell("of:3;keep:3x<25;keep:3x>25;keep:2y>17;keep:2y<17");
        d.due("37: two digits above, one below", d.spelt(0), "25/3,17/2,0");
        tell("of:3;keep:3x<10;keep:3x>10;keep:2y>11;keep:2y<11");
        d.due("37: the least of two digits", d.spelt(0), "10/3,11/2,0");
        tell("of:3;keep:3x+3y+3z<26;keep:3x-3y+2z>19;keep:3x+y-3z>23");
        d.due("37: three digits", d.spelt(1), "755/102,39/34,2/17");
        none("37: behind its end", -2, v -> d.x().spelt(1, v), 18, 19, 64, 65, MANY);
        tell("of:3;keep:3x+3y-z<25;keep:3x-2y+3z>11;keep:x+3y+3z>29;keep:-2x+3y+3z<17");
        for (int i = 0; i < d.x().all(0); i++) {
            StringBuilder text = new StringBuilder();
            for (int q = 0; q < 3; q++) {
                long low = d.x().corner(i, 2 * q + 1);
                text.append(q > 0 ? "," : "").append(d.x().corner(i, 2 * q)).append(low == 1 ? "" : "/" + low);
            }
            d.due("37: as the fractions are", d.spelt(i), text.toString());
        }
    }
}
