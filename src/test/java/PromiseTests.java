/** Each promise of the document by its number: ordinary inputs, the edges that are named, wrong inputs. */
public final class PromiseTests {
    private static final Desk d = new Desk("PromiseTests");
    /** CORNERS (0,0) (0,8) (2,8) (8,0) (8,2), of which 2 and 4 are EFFICIENT. */
    private static final String SQUARE = "of:2;wish:x;wish:y;keep:x+y<10;box:x<8;box:y<8";
    /** CORNERS (0,0) (0,4) (12/5,12/5) (4,0): EFFICIENT are 0, 1. */
    private static final String KITE = "of:2;wish:x+2y;least:x;keep:2x+3y<12;keep:3x+2y<12";
    /** CORNERS (0,0,0) (0,0,9) (0,9,0) (9,0,0). */
    private static final String WEDGE = "of:3;wish:x;wish:y;wish:z;keep:x+y+z<9";
    /** CORNERS (0,0,0) (0,0,9) (0,9,0) (9,0,0) with WISHES 0 0, 18 18, 0 27, 27 0. */
    private static final String BOW = "of:3;wish:3x+2z;wish:3y+2z;keep:x+y+z<9";
    private static final String EMPTY = "of:2;wish:x;wish:y;keep:x>5;keep:x<4";
    private static final int MANY = Integer.MAX_VALUE;
    private static final int FEW = Integer.MIN_VALUE;

    public static void main(String[] args) {
        aNewObject();
        feed();
        law();
        problem();
        whatIsTold();
        corners();
        cornerIsAndEdge();
        all();
        weightsAndTurns();
        idealAndBest();
        behind();
        heldAt();
        plans();
        faces();
        needed();
        whole();
        shadow();
        slack();
        middle();
        ways();
        regret();
        area();
        ranked();
        price();
        walk();
        chosen();
        spelt();
        keepAndUndo();
        check();
        count();
        refusalsChangeNothing();
        d.end();
    }

    private static void tell(String problem) {
        d.due(problem + " stands", d.fresh().problem(problem) >= 0 ? 1 : 0, 1);
    }

    private static void aNewObject() {
        d.fresh();
        d.due("NONE", SeveralWishes.NONE, -1);
        d.due("1: quantities", d.x().problemIs(0), 1);
        d.due("1: wishes", d.x().problemIs(1), 0);
        d.due("1: keeps", d.x().problemIs(2), 0);
        d.due("1: planes", d.x().problemIs(3), 2);
        d.due("1: box", d.x().problemIs(10), 9);
        d.due("1: rules", d.x().count(0), 0);
        d.due("1: tape", d.x().count(1), 0);
        d.due("1: corners", d.x().all(0), 2);
        d.due("1: weak", d.x().cornerIs(1, 3), 1);
        d.due("1: nothing kept", d.x().undo() ? 1 : 0, 0);
        d.due("1: chosen", d.x().chosen(0), 0);
        d.due("1: gain of any plan", d.x().gain(5, 0, 0, 0), d.x().gain(5, 0, 0, 1), 0, 1);
        d.due("1: better is the least", d.x().better(5, 0, 0, 0), 0);
    }

    private static void feed() {
        d.fresh();
        for (int i = 1; i <= 13; i++) {
            d.due("2: feed " + i, d.x().feed(-1, 0, 1, MANY, FEW), 20 * i);
        }
        d.due("2: a 14th", d.x().feed(0, 0, 0, 0, 0), -1);
        d.due("2: which changes nothing", d.x().count(1), 260);
        d.fresh().feed("of:3aaaaaaaaaaaaaaaa");
        d.feed("zz");
        d.due("2: highest byte first, the first four ahead", d.x().problem(4), 8);
        d.due("2: all are used up", d.x().count(1), 0);
        d.fresh().x().feed(0x6f663a31, 0x3b776973, 0x683a783b, 0x626f783a, 0x783c3561);
        d.due("2: as README.md has it", d.x().problem(19), 2);
        d.due("2: as README.md has it", d.x().ideal(0, 0), 5);
    }

    private static void law() {
        d.fresh();
        d.due("3: n 1, no tape", d.x().law(1), -1);
        d.feed("v5(i=0)");
        d.due("3: n 0", d.x().law(0), -1);
        d.due("3: n below 0", d.x().law(FEW), -1);
        d.due("3: n 21 of 20", d.x().law(21), -1);
        d.due("3: the tape stays", d.x().count(1), 20);
        d.due("3: a law", d.x().law(7), 1);
        d.due("3: the tape is empty", d.x().count(1), 0);
        d.due("3: another fault", d.law("v5(i=0);"), -1008);
        d.due("3: the tape is empty", d.x().count(1), 0);
        d.due("3: the one before stays", d.x().count(0), 1);
        d.due("3: and is asked", d.x().chosen(1), 5);
        StringBuilder full = new StringBuilder("v1");
        while (full.length() < 234) {
            full.append("+1");
        }
        full.append("1(i=0)");
        d.due("3: 240 bytes", full.length(), 240);
        d.due("3: of 240 bytes", d.law(full.toString()), 1);
        full.setLength(239);
        d.due("3: cut short", d.law(full.toString()), -1239);
        full.append(')');
        d.feed(full + "aaaaaaaaaaaaaaaaaaaa");
        d.due("3: 241", d.x().law(241), -1);
        d.fresh();
        faultsOfALaw();
    }

    private static void faultsOfALaw() {
        String[][] texts = {
            {"y(i=0)", "-1000"}, {"v", "-1001"}, {"x", "-1001"}, {"x5(i=0)", "-1001"}, {"v(i=0)", "-1001"},
            {"v-1(i=0)", "-1001"}, {"v1", "-1002"}, {"v1()", "-1003"}, {"v1(i", "-1004"}, {"v1(i=", "-1005"},
            {"v1(i=0", "-1006"}, {"v1(i)", "-1004"}, {"v1(i=0=0)", "-1006"}, {"v1(i=0))", "-1007"},
            {"v1(i=0)v", "-1007"}, {"v1(i=0);", "-1008"}, {"v1(i=0) ", "-1007"}, {"v 1(i=0)", "-1001"},
            {"v1(d=0)", "-1003"}, {"v1(i=0&)", "-1007"}, {"v1(i=0|)", "-1007"}, {"v1(!)", "-1004"},
            {"v1([i=0)", "-1005"}, {"v1([i]=0)", "1"}, {"v1((i)=0)", "-1005"}, {"v(1)(i=0)", "-1001"},
            {"v[1](i=0)", "1"}, {"v[1(i=0)", "-1003"}, {"v1*(i=0)", "-1003"}, {"v1+-1(i=0)", "-1003"},
            {"v12345(i=0)", "1"}, {"v123456(i=0)", "-2006"}, {"v00000(i=0)", "1"}, {"v000000(i=0)", "-2006"},
            {"v1(99999=999999)", "-2014"}, {"v1i(i=0)", "-1002"}, {"vi1(i=0)", "-1002"}, {"vz(i=0)", "-1001"},
            {"x((((((i=0))))))", "1"}, {"x(((((((i=0)))))))", "-5007"}, {"x(!!!!!i=0)", "1"},
            {"x(!!!!!!i=0)", "-5007"}, {"x(!!!!![i]=0)", "-5007"}, {"x(!!!!!i=[0])", "-5009"},
            {"x(!!!!i=[0])", "1"}, {"x(!!!!!i=0&!!!!!i=0)", "1"}, {"x(!!!!!i=0&!!!!!!i=0)", "-5016"},
            {"x(!(!(!i=0)))", "1"}, {"x(!(!(!(i=0))))", "-5007"}, {"x(!(!(!i=[0])))", "-5009"},
            {"x(((((i=[[0]])))))", "-5009"}, {"x(((((i=[0])))))", "1"}, {"v[[[[[[5]]]]]](i=0)", "1"},
            {"v[[[[[[[5]]]]]]](i=0)", "-5007"}, {"v[[[[[[5]]]]]](!!!!!i=0)", "1"}, {"x(([i]=0)|!(i=[0]))", "1"},
            {"vi+a-b*c/t%n+e(i<a&b>c|!t=n&!(e<0|1=[2-1]))", "1"}, {"x(i=0);v1(i=0);x(1=1)", "3"},
        };
        for (String[] text : texts) {
            d.due("3: law " + text[0], d.law(text[0]), Integer.parseInt(text[1]));
        }
        StringBuilder rules = new StringBuilder("x(1=1)");
        for (int k = 1; k < 16; k++) {
            rules.append(";v1(i=0)");
        }
        d.due("3: sixteen rules", d.law(rules.toString()), 16);
        d.due("3: a 17th", d.law(rules + ";v"), -4000 - rules.length() - 1);
        d.due("3: a 17th", d.law(rules + ";xx"), -4000 - rules.length() - 1);
        d.due("3: what is none", d.law(rules + ";i"), -1000 - rules.length() - 1);
        d.due("3: nothing", d.law(rules + ";"), -1000 - rules.length() - 1);
        d.due("3: sixteen stay", d.x().count(0), 16);
    }

    private static void problem() {
        d.fresh();
        d.due("4: n 1, no tape", d.x().problem(1), -1);
        d.feed("of:1");
        d.due("4: n 0", d.x().problem(0), -1);
        d.due("4: n 21 of 20", d.x().problem(21), -1);
        d.due("4: the tape stays", d.x().count(1), 20);
        d.due("4: a problem", d.x().problem(4), 2);
        d.due("4: the tape is empty", d.x().count(1), 0);
        d.due("4: the square", d.problem(SQUARE), 5);
        d.due("4: a fault", d.problem("of:1;"), -1005);
        d.due("4: the tape is empty", d.x().count(1), 0);
        d.due("4: the one before stays", d.x().problemIs(11), 8);
        d.due("4: and its corners", d.x().all(0), 5);
        d.due("4: nothing is allowed", d.problem(EMPTY), 0);
        StringBuilder full = new StringBuilder("of:1;wish:x");
        while (full.length() < 199) {
            full.append("-x+x");
        }
        d.due("4: 199 bytes", d.problem(full.toString()), 2);
        d.due("4: 199 bytes", full.length(), 199);
        d.due("4: 200 bytes", d.problem(full + "+"), -1200);
        d.feed(full + "-x");
        d.due("4: 201", d.x().problem(201), -1);
        d.fresh();
        faultsOfAProblem();
    }

    private static void faultsOfAProblem() {
        String[][] texts = {
            {"o", "-1000"}, {"of", "-1002"}, {"of:", "-1003"}, {"of:0", "-1003"}, {"of:4", "-1003"}, {"off:1", "-1000"},
            {":", "-1000"}, {";of:1", "-1000"}, {"wish:x", "-1000"}, {"Of:1", "-1000"}, {"oF:1", "-1000"},
            {"of;1", "-1002"}, {"of:11", "-1004"}, {"of:1 ", "-1004"}, {"of:1;", "-1005"}, {"of:1;;", "-1005"},
            {"of:1;of:1", "-1005"}, {"of:1;wishes:x", "-1005"}, {"of:1;wis:x", "-1005"}, {"of:1;wish x", "-1009"},
            {"of:1;wish:", "-1010"}, {"of:1;wish:+x", "-1010"}, {"of:1;wish:--x", "-1011"}, {"of:1;wish:1x", "-1010"},
            {"of:1;wish:4x", "-1010"}, {"of:1;wish:2", "-1011"}, {"of:1;wish:22x", "-1011"}, {"of:1;wish:-", "-1011"},
            {"of:1;wish:y", "-7010"}, {"of:1;wish:w", "-1010"}, {"of:1;wish:xy", "-1011"}, {"of:1;wish:x<3", "-1011"},
            {"of:1;wish:x+", "-1012"}, {"of:1;wish:x+;", "-1012"}, {"of:2;wish:x+z", "-7012"}, {"of:2;wish:x2", "-1011"},
            {"of:1;wish:3x", "2"}, {"of:1;wish:-3x", "2"}, {"of:1;wish:3x+x", "-3013"}, {"of:1;wish:3x+x-x", "-3013"},
            {"of:1;wish:3x-x+x", "2"}, {"of:1;wish:-3x-x", "-3014"}, {"of:1;least:3x+x", "-3014"},
            {"of:1;least:-3x-x", "-3015"}, {"of:1;wish:3x+2y", "-7014"}, {"of:1;wish:3x+3y", "-7014"},
            {"of:1;keep:x", "-1011"}, {"of:1;keep:x=3", "-1011"}, {"of:1;keep:x<", "-1012"}, {"of:1;keep:x<-3", "-1012"},
            {"of:1;keep:x<5", "2"}, {"of:1;keep:x<05", "2"}, {"of:1;keep:x<99", "2"}, {"of:1;keep:x<100", "-2014"},
            {"of:1;keep:x<1x", "-1013"}, {"of:1;keep:3x+x<5", "-3013"}, {"of:1;keep:<5", "-1010"},
            {"of:1;keep:x><5", "-1012"}, {"of:1;keep:x-x<0", "2"}, {"of:1;keep:x-x>1", "0"},
            {"of:1;box:x<5", "2"}, {"of:1;box:x<09", "2"}, {"of:1;box:x<0", "-3011"}, {"of:1;box:x<00", "-3011"},
            {"of:1;box:x<10", "-3011"}, {"of:1;box:x<99", "-3011"}, {"of:1;box:x<0;", "-3011"},
            {"of:1;box:x<0z", "-3011"}, {"of:1;box:x<10z", "-3011"}, {"of:1;box:x<10;box:x<100", "-3011"},
            {"of:1;box:x<100", "-2013"}, {"of:1;box:x<005", "-2013"}, {"of:1;box:x<000", "-2013"},
            {"of:1;box:x<999z", "-2013"}, {"of:2;box:y<5;box:x<1000", "-2021"},
            {"of:1;box:x<012", "-2013"}, {"of:1;box:x<5z", "-1012"}, {"of:1;box:x<", "-1011"}, {"of:1;box:x>5", "-1010"},
            {"of:1;box:y<5", "-7009"}, {"of:1;box:-x<5", "-1009"}, {"of:1;box:2x<5", "-1009"}, {"of:1;box:x+x<5", "-1010"},
            {"of:1;box:x<5;box:x<5", "-6017"}, {"of:1;box:x<5;box:y<5", "-7017"}, {"of:2;box:x<5;box:y<5", "4"},
            {"of:1;wish:x;least:x;wish:x", "2"}, {"of:1;wish:x;least:x;wish:x;least", "-4027"},
            {"of:1;wish:x;least:x;wish:x;wish!", "-4027"}, {"of:1;wish:x;least:x;wish:x;wishe", "-1027"},
            {"of:1;keep:x<9;keep:x<9;keep:x<9;keep:x<9", "2"}, {"of:1;keep:x<9;keep:x<9;keep:x<9;keep:x<9;keep", "-4041"},
        };
        for (String[] text : texts) {
            d.due("4: problem " + text[0], d.problem(text[0]), Integer.parseInt(text[1]));
        }
    }

    private static void whatIsTold() {
        tell("of:2;least:2x-y;keep:x-3y>7;box:y<4;wish:x-x");
        int[] is = {2, 2, 1, 5};
        for (int what = 0; what < 4; what++) {
            d.due("5: problemIs", d.x().problemIs(what), is[what]);
        }
        d.due("5: box x", d.x().problemIs(10), 9);
        d.due("5: box y", d.x().problemIs(11), 4);
        for (int what : new int[] {-1, 4, 9, 12, 13, MANY, FEW}) {
            d.due("5: no such what", d.x().problemIs(what), -1);
        }
        d.due("6: least", d.x().wish(0, 0), -2);
        d.due("6: least", d.x().wish(0, 1), 1);
        d.due("6: taken no times", d.x().wish(1, 0), 0);
        for (int no : new int[] {-1, 2, MANY, FEW}) {
            d.due("6: no such wish", d.x().wish(no, 0), -100000);
            d.due("6: no such quantity", d.x().wish(0, no), -100000);
        }
        int[][] planes = {{1, -3, 0, 7, 1}, {1, 0, 0, 0, 2}, {0, 1, 0, 0, 2}, {1, 0, 0, 9, 3}, {0, 1, 0, 4, 3}};
        for (int k = 0; k < 5; k++) {
            for (int what = 0; what < 5; what++) {
                d.due("7: plane " + k + " " + what, d.x().plane(k, what), planes[k][what]);
            }
        }
        for (int no : new int[] {-1, 5, MANY, FEW}) {
            d.due("7: no such plane", d.x().plane(no, 0), -100000);
            d.due("7: no such what", d.x().plane(0, no), -100000);
        }
    }

    private static void corners() {
        tell(KITE);
        long[][] corners = {{0, 1, 0, 1}, {0, 1, 4, 1}, {12, 5, 12, 5}, {4, 1, 0, 1}};
        for (int i = 0; i < 4; i++) {
            for (int what = 0; what < 4; what++) {
                d.due("8: corner " + i + " " + what, d.x().corner(i, what), corners[i][what]);
            }
        }
        d.due("8: not so many", d.x().corner(4, 0), -4);
        d.due("8: not so many", d.x().corner(MANY, 3), -4);
        for (int no : new int[] {-1, 4, MANY, FEW}) {
            d.due("8: no such what", d.x().corner(0, no), -1);
            d.due("8: ahead of too many", d.x().corner(9, no), -1);
        }
        d.due("8: no such corner", d.x().corner(-1, 0), -1);
        d.due("9: wishAt", d.x().wishAt(2, 0, 0), d.x().wishAt(2, 0, 1), 36, 5);
        d.due("9: below 0", d.x().wishAt(2, 1, 0), d.x().wishAt(2, 1, 1), -12, 5);
        d.due("9: 0 over 1", d.x().wishAt(0, 1, 0), d.x().wishAt(0, 1, 1), 0, 1);
        for (int no : new int[] {-1, 4, MANY, FEW}) {
            d.due("9: no such corner", d.x().wishAt(no, 0, 0), -100000000);
            d.due("9: no such wish", d.x().wishAt(0, no, 0), -100000000);
            d.due("9: no such what", d.x().wishAt(0, 0, no), -100000000);
        }
        d.due("9: no third part", d.x().wishAt(0, 0, 2), -100000000);
    }

    private static void cornerIsAndEdge() {
        tell(SQUARE);
        int[][] is = {{6, 2, 0, 0, 2, 0}, {18, 2, 0, 1, 1, 0}, {17, 2, 1, 1, 0, 1}, {12, 2, 0, 1, 1, 0},
            {9, 2, 1, 1, 0, 1}};
        for (int i = 0; i < 5; i++) {
            for (int what = 0; what < 6; what++) {
                d.due("10: cornerIs " + i + " " + what, d.x().cornerIs(i, what), is[i][what]);
            }
        }
        d.due("10: not so many", d.x().cornerIs(5, 0), -4);
        d.due("10: no such what, ahead", d.x().cornerIs(5, 6), -1);
        d.due("10: no such what", d.x().cornerIs(0, -1), -1);
        d.due("10: no such corner", d.x().cornerIs(-1, 0), -1);
        d.due("11: efficient", d.x().edge(2, 4), 2);
        d.due("11: the other way round", d.x().edge(4, 2), 2);
        d.due("11: neighbours", d.x().edge(0, 1), 1);
        d.due("11: none", d.x().edge(0, 4), 0);
        d.due("11: no two", d.x().edge(3, 3), -1);
        for (int no : new int[] {-1, 5, MANY, FEW}) {
            d.due("11: no such two", d.x().edge(0, no), -1);
            d.due("11: no such two", d.x().edge(no, 0), -1);
        }
        // Corners 1, 2, 3 are efficient; between 2 and 3 there is less of both wishes than at 1.
        tell(BOW);
        d.due("11: both ends efficient, the edge not", d.x().edge(2, 3), 1);
        d.due("11: by the third one", d.x().edge(1, 2), 2);
        d.due("10: efficient edges", d.x().cornerIs(2, 5), 1);
        d.due("12: pieces", d.x().all(4), 1);
        d.due("28: the way round", d.x().reach(2, 3, true), 2);
        d.due("28: straight on", d.x().reach(2, 3, false), 1);
        d.due("30: between", d.x().along(2, 3, 5), 1);
        tell("of:3;wish:x;wish:y;wish:z;keep:x+y+2z<9;keep:2x+y+z<9");
        for (int i = 0; i < d.x().all(0); i++) {
            for (int j = 0; j < d.x().all(0); j++) {
                if (i != j && d.x().edge(i, j) > 0) {
                    d.due("11: by its middle", d.x().edge(i, j), d.x().along(i, j, 5));
                }
            }
        }
    }

    private static void all() {
        tell(SQUARE);
        int[] all = {5, 5, 2, 1, 1, 3, 4, 0, 0, 2, 1, 0};
        for (int what = 0; what < 12; what++) {
            d.due("12: all " + what, d.x().all(what), all[what]);
        }
        tell(WEDGE);
        int[] wedge = {4, 6, 3, 3, 1, 2, 3, 4, 1, 3, 1, 3};
        for (int what = 0; what < 12; what++) {
            d.due("12: all " + what + " of the wedge", d.x().all(what), wedge[what]);
        }
        tell(EMPTY);
        int[] none = {0, 0, 0, 0, 0, 0, 0, 0, 0, 0, 2, 0};
        for (int what = 0; what < 12; what++) {
            d.due("12: all " + what + " of nothing", d.x().all(what), none[what]);
        }
        d.due("12: no such what", d.x().all(-1), -1);
        d.due("12: no such what", d.x().all(12), -1);
        tell("of:3");
        int[] cube = {8, 12, 8, 12, 1, 1, 8, 6, 6, 1, 0, 0};
        for (int what = 0; what < 12; what++) {
            d.due("12: all " + what + " without wishes", d.x().all(what), cube[what]);
        }
        tell("of:3;keep:x-x<0;keep:y<0");
        d.due("12: a sum of nothing is a face, two in one place are two", d.x().all(7), 3);
        d.due("12: crowded by them", d.x().all(11), 4);
        tell("of:2;wish:x-x;wish:x");
        d.due("12: a wish that never is more: all are weak", d.x().all(6), 4);
        d.due("12: of like values", d.x().all(9), 1);
        d.due("12: efficient", d.x().all(2), 2);
    }

    private static void weightsAndTurns() {
        tell(SQUARE);
        long[][] weights = {null, {0, 1, 0, 1}, {0, 1, 1, 2}, {1, 1, 1, 1}, {1, 2, 1, 1}};
        for (int i = 1; i < 5; i++) {
            for (int what = 0; what < 4; what++) {
                d.due("13: weights " + i + " " + what, d.x().weights(i, what), weights[i][what]);
            }
        }
        d.due("13: none", d.x().weights(0, 0), -2);
        d.due("13: not so many", d.x().weights(5, 0), -4);
        d.due("13: no such what", d.x().weights(5, 4), -1);
        d.due("13: no such what", d.x().weights(0, -1), -1);
        d.due("13: no such corner", d.x().weights(-1, 0), -1);
        d.due("23: how many", d.x().turn(200), 1);
        d.due("23: the turn", d.x().turn(0), d.x().turn(1), 1, 2);
        d.due("23: not so many", d.x().turn(2), -2);
        d.due("23: not so many", d.x().turn(99), -2);
        for (int no : new int[] {-1, 100, 199, 201, MANY, FEW}) {
            d.due("23: no such what", d.x().turn(no), -1);
        }
        tell("of:2;wish:2x;wish:y;keep:3x+y<12;keep:x+3y<12");
        d.due("23: two turns", d.x().turn(200), 2);
        d.due("23: rising", d.x().turn(0), d.x().turn(1), 1, 7);
        d.due("23: rising", d.x().turn(2), d.x().turn(3), 3, 5);
        tell("of:3;wish:3x-y-z;wish:3z-x-y;keep:2x+z<12;keep:x+2z<12;keep:x+z<7");
        for (int t = 0; t + 2 < 2 * d.x().turn(200); t += 2) {
            d.due("23: rising", d.x().turn(t) * d.x().turn(t + 3) < d.x().turn(t + 2) * d.x().turn(t + 1) ? 1 : 0, 1);
        }
        d.due("23: three turns", d.x().turn(200), 3);
        tell("of:2;least:x;wish:y;keep:y-3x<1;keep:y-x<3;keep:2y-x<8");
        d.due("23: three turns, met the other way round", d.x().turn(200), 3);
        d.due("23: the least first", d.x().turn(0), d.x().turn(1), 1, 3);
        d.due("23: then", d.x().turn(2), d.x().turn(3), 1, 2);
        d.due("23: the greatest last", d.x().turn(4), d.x().turn(5), 3, 4);
        tell("of:2;wish:x;wish:2x");
        d.due("23: like wishes are as one", d.x().turn(200), 0);
        d.due("13: best by every share", d.x().weights(3, 2), 1);
        tell("of:2;wish:x;wish:y;wish:x");
        d.due("13: three wishes", d.x().weights(99, 0), -3);
        d.due("13: no such what is ahead", d.x().weights(0, 4), -1);
        d.due("23: three wishes", d.x().turn(0), -3);
        d.due("23: no such what is ahead", d.x().turn(100), -1);
        tell(EMPTY);
        d.due("13: no corners", d.x().weights(0, 0), -4);
        d.due("23: no corners", d.x().turn(200), 0);
        d.due("23: no corners", d.x().turn(0), -2);
    }

    private static void idealAndBest() {
        tell(KITE);
        d.due("14: ideal", d.x().ideal(0, 0), d.x().ideal(0, 1), 8, 1);
        d.due("14: worst", d.x().ideal(0, 2), d.x().ideal(0, 3), 8, 1);
        d.due("14: ideal of least", d.x().ideal(1, 0), d.x().ideal(1, 1), 0, 1);
        tell(SQUARE);
        d.due("14: worst", d.x().ideal(0, 2), d.x().ideal(0, 3), 2, 1);
        for (int no : new int[] {-1, 4, MANY, FEW}) {
            d.due("14: no such what", d.x().ideal(0, no), -100000000);
            d.due("14: no such wish", d.x().ideal(no, 0), -100000000);
            d.due("15: no such what", d.x().best(0, 0, 0, no), -100000000);
        }
        d.due("15: best", d.x().best(2, 1, 9, 0), d.x().best(2, 1, 9, 1), 18, 1);
        d.due("15: its corner", d.x().best(2, 1, 9, 2), 4);
        d.due("15: the lowest", d.x().best(1, 1, 0, 2), 2);
        d.due("15: of nothing", d.x().best(0, 0, 0, 2), 0);
        for (int no : new int[] {-1, 10, MANY, FEW}) {
            d.due("15: no such weight", d.x().best(no, 0, 0, 0), -100000000);
            d.due("15: no such weight", d.x().best(0, no, 0, 2), -100000000);
            d.due("15: no such weight", d.x().best(0, 0, no, 0), -100000000);
        }
        d.due("15: no what 3", d.x().best(0, 0, 0, 3), -100000000);
        tell("of:2;wish:2x+y;keep:3x+2y<10");
        d.due("15: a fraction", d.x().best(9, 0, 0, 0), d.x().best(9, 0, 0, 1), 60, 1);
        tell("of:2;wish:x+y;keep:3x+2y<10;keep:2x+3y<10");
        d.due("15: of both keeps", d.x().best(3, 0, 0, 0), d.x().best(3, 0, 0, 1), 12, 1);
        tell("of:1;wish:x;keep:3x<10");
        d.due("15: a third", d.x().best(2, 0, 0, 0), d.x().best(2, 0, 0, 1), 20, 3);
        tell(EMPTY);
        d.due("14: no corners", d.x().ideal(0, 0), -100000000);
        d.due("15: no corners", d.x().best(1, 1, 1, 2), -100000000);
        tell("of:1");
        d.due("15: without wishes", d.x().best(1, 1, 1, 0), d.x().best(1, 1, 1, 1), 0, 1);
    }

    private static void behind() {
        tell(WEDGE);
        int[][] orders = {{12, 3}, {21, 3}, {102, 2}, {120, 2}, {201, 1}, {210, 1}, {0, -1}, {11, -1}, {112, -1},
            {13, -1}, {1012, -1}, {-12, -1}, {MANY, -1}, {FEW, -1}};
        for (int[] order : orders) {
            d.due("16: of three, " + order[0], d.x().behind(order[0]), order[1]);
        }
        tell("of:3;wish:x;least:y;wish:z;keep:x+z<9;box:x<5");
        d.due("16: one behind the other", d.x().corner(d.x().behind(12), 4), 4);
        d.due("16: one behind the other", d.x().corner(d.x().behind(12), 2), 0);
        d.due("16: the other way round", d.x().corner(d.x().behind(210), 4), 9);
        tell(SQUARE);
        d.due("16: of two", d.x().behind(1), 4);
        d.due("16: of two", d.x().behind(10), 2);
        for (int no : new int[] {-1, 0, 2, 11, 12, 20, 101, MANY, FEW}) {
            d.due("16: no such order of two", d.x().behind(no), -1);
        }
        tell("of:2;wish:x");
        d.due("16: of one, the lowest", d.x().behind(0), 2);
        d.due("16: no such order of one", d.x().behind(1), -1);
        d.due("16: no such order of one", d.x().behind(10), -1);
        d.due("16: no wishes", new SeveralWishes().behind(0), -1);
        tell(EMPTY);
        d.due("16: no corners", d.x().behind(1), -2);
        d.due("16: no such order is ahead", d.x().behind(0), -1);
    }

    private static void heldAt() {
        tell("of:2;wish:2x-y;wish:2y;keep:2x+3y<15");
        d.due("17: held", d.x().heldAt(0, 1, 5, 0), d.x().heldAt(0, 1, 5, 1), 5, 1);
        d.due("17: held", d.x().heldAt(1, 0, 1, 0), d.x().heldAt(1, 0, 1, 1), 7, 1);
        d.due("17: a fraction", d.x().heldAt(1, 0, 2, 0), d.x().heldAt(1, 0, 2, 1), 13, 2);
        d.due("17: held by nothing", d.x().heldAt(0, 1, -999, 0), 15);
        d.due("17: just there", d.x().heldAt(0, 1, 10, 0), -5);
        d.due("17: no plan is", d.x().heldAt(0, 1, 11, 0), -99999999);
        d.due("17: no plan is", d.x().heldAt(0, 1, 999, 1), -99999999);
        for (int no : new int[] {-1000, 1000, MANY, FEW}) {
            d.due("17: no such number", d.x().heldAt(0, 1, no, 0), -100000000);
        }
        for (int no : new int[] {-1, 2, MANY, FEW}) {
            d.due("17: no such wish", d.x().heldAt(no, 1, 0, 0), -100000000);
            d.due("17: no such other wish", d.x().heldAt(0, no, 0, 0), -100000000);
            d.due("17: no such what", d.x().heldAt(0, 1, 999, no), -100000000);
        }
        d.due("17: the same wish", d.x().heldAt(1, 1, 0, 0), -100000000);
        tell(EMPTY);
        d.due("17: no plan is", d.x().heldAt(0, 1, -999, 0), -99999999);
    }

    private static void plans() {
        tell(SQUARE);
        int[][] plans = {{9, 9, 0}, {3, 3, 1}, {5, 5, 2}, {2, 8, 2}, {8, 2, 2}, {0, 8, 1}, {8, 3, 0}, {9, 0, 0}};
        for (int[] p : plans) {
            d.due("18: plan " + p[0] + " " + p[1], d.x().plan(p[0], p[1], 0), p[2]);
        }
        d.due("19: gain", d.x().gain(3, 3, 0, 0), d.x().gain(3, 3, 0, 1), 4, 1);
        d.due("19: no gain", d.x().gain(5, 5, 0, 0), d.x().gain(5, 5, 0, 1), 0, 1);
        d.due("20: better", d.x().better(3, 3, 0, 0), d.x().better(3, 3, 0, 1), 3, 1);
        d.due("20: better", d.x().better(3, 3, 0, 2), d.x().better(3, 3, 0, 3), 7, 1);
        d.due("20: itself", d.x().better(5, 5, 0, 0), d.x().better(5, 5, 0, 2), 5, 5);
        d.due("19: not allowed", d.x().gain(9, 9, 0, 0), -2);
        d.due("20: not allowed", d.x().better(9, 9, 0, 0), -2);
        for (int no : new int[] {-1, 10, MANY, FEW}) {
            d.due("18: no such", d.x().plan(no, 0, 0), -1);
            d.due("18: no such", d.x().plan(0, no, 0), -1);
            d.due("18: no such", d.x().plan(0, 0, no), -1);
            d.due("19: no such", d.x().gain(0, no, 0, 0), -1);
            d.due("19: no such what", d.x().gain(9, 9, 0, no), -1);
            d.due("20: no such", d.x().better(no, 0, 0, 0), -1);
            d.due("20: no such what", d.x().better(9, 9, 0, no), -1);
        }
        d.due("18: a quantity that is not there", d.x().plan(0, 0, 1), -1);
        d.due("19: a quantity that is not there", d.x().gain(0, 0, 1, 0), -1);
        d.due("20: a quantity that is not there", d.x().better(0, 0, 1, 0), -1);
        d.due("20: the what of one", d.x().better(0, 0, 0, 4), -1);
        d.due("19: no what 2", d.x().gain(0, 0, 0, 2), -1);
        tell(KITE);
        d.due("19: a fraction", d.x().gain(1, 1, 0, 0), d.x().gain(1, 1, 0, 1), 6, 1);
        d.due("20: where it is", d.x().better(1, 1, 0, 0), d.x().better(1, 1, 0, 2), 0, 4);
        tell("of:2;wish:x;wish:y;keep:3x+2y<11");
        d.due("19: a fraction", d.x().gain(1, 1, 0, 0), d.x().gain(1, 1, 0, 1), 3, 1);
        tell("of:2;wish:x;wish:y;keep:2x+3y<12");
        d.due("19: a half", d.x().gain(1, 1, 0, 0), d.x().gain(1, 1, 0, 1), 7, 2);
        d.due("20: a half", d.x().better(1, 1, 0, 0), d.x().better(1, 1, 0, 1), 9, 2);
    }

    private static void faces() {
        tell(WEDGE);
        int[][] faces = {{3, 1, 1}, {3, 1, 0}, {3, 1, 0}, {3, 1, 0}, {1, 0, 0}, {1, 0, 0}, {1, 0, 0}};
        for (int k = 0; k < 7; k++) {
            for (int what = 0; what < 3; what++) {
                d.due("21: face " + k + " " + what, d.x().face(k, what), faces[k][what]);
            }
        }
        for (int no : new int[] {-1, 7, MANY, FEW}) {
            d.due("21: no such plane", d.x().face(no, 0), -1);
            d.due("21: no such what", d.x().face(0, no), -1);
        }
        d.due("21: no what 3", d.x().face(0, 3), -1);
        tell(SQUARE);
        d.due("21: of two quantities, corners on it", d.x().face(0, 0), 2);
        d.due("21: of two quantities no face", d.x().face(0, 1), 0);
        d.due("21: of two quantities no face", d.x().face(0, 2), 0);
        tell("of:3;keep:x-x<0;keep:x-x<1");
        d.due("21: of nothing, tight everywhere", d.x().face(0, 0), 8);
        d.due("21: is a face", d.x().face(0, 1), 1);
        d.due("21: efficient without wishes", d.x().face(0, 2), 1);
        d.due("21: of nothing, tight nowhere", d.x().face(1, 0), 0);
        tell("of:2;keep:x-x<0");
        d.due("21: of two quantities no face", d.x().face(0, 1), 0);
        tell("of:3;wish:x;keep:y<0;keep:z<0");
        d.due("21: in a line", d.x().face(0, 1), 0);
    }

    private static void needed() {
        tell("of:2;keep:x+y<10;keep:x+y<11;keep:x<9;keep:y>0");
        int[] needed = {1, 0, 0, 0};
        for (int k = 0; k < 4; k++) {
            d.due("22: needed " + k, d.x().needed(k), needed[k]);
        }
        for (int no : new int[] {-1, 4, MANY, FEW}) {
            d.due("22: no such keep", d.x().needed(no), -1);
        }
        tell("of:2;keep:x+y<10;keep:x+y<10");
        d.due("22: one of two like ones", d.x().needed(0), 0);
        d.due("22: one of two like ones", d.x().needed(1), 0);
        tell("of:1;keep:x>5;keep:x<4");
        d.due("22: nothing is allowed with it", d.x().needed(0), 1);
        tell("of:1;keep:x-x>5;keep:x>3");
        d.due("22: nothing is allowed with it", d.x().needed(0), 1);
        d.due("22: nor without this one", d.x().needed(1), 0);
    }

    private static void whole() {
        tell(SQUARE);
        d.due("24: how many", d.x().whole(1, 1, 0, 0), 60);
        d.due("24: the most", d.x().whole(2, 3, 9, 1), 28);
        d.due("24: the first", d.x().whole(1, 1, 0, 2), 280);
        d.due("24: the first of all", d.x().whole(0, 0, 0, 2), 0);
        for (int no : new int[] {-1, 10, MANY, FEW}) {
            d.due("24: no such weight", d.x().whole(no, 0, 0, 0), -100000);
            d.due("24: no such weight", d.x().whole(0, no, 0, 0), -100000);
            d.due("24: no such weight", d.x().whole(0, 0, no, 1), -100000);
            d.due("24: no such what", d.x().whole(0, 0, 0, no), -100000);
        }
        d.due("24: no what 3", d.x().whole(0, 0, 0, 3), -100000);
        tell("of:3;least:x;wish:y-z;keep:x>2;keep:z>1");
        d.due("24: below 0", d.x().whole(9, 0, 0, 1), -18);
        d.due("24: 100 x, 10 y and z", d.x().whole(9, 1, 0, 2), 291);
        tell("of:1;keep:2x>3;keep:2x<3");
        d.due("24: a plan, but no whole one", d.x().all(0), 1);
        d.due("24: none", d.x().whole(0, 0, 0, 0), 0);
        d.due("24: none", d.x().whole(0, 0, 0, 1), -100000);
        d.due("24: none", d.x().whole(0, 0, 0, 2), -100000);
    }

    private static void shadow() {
        tell(KITE);
        d.due("25: shadow", d.x().shadow(0, 1, 0, 0, 0), d.x().shadow(0, 1, 0, 0, 1), 2, 3);
        d.due("25: no more", d.x().shadow(1, 1, 0, 0, 0), d.x().shadow(1, 1, 0, 0, 1), 0, 1);
        d.due("25: twice", d.x().shadow(0, 2, 0, 9, 0), d.x().shadow(0, 2, 0, 9, 1), 4, 3);
        for (int no : new int[] {-1, 10, MANY, FEW}) {
            d.due("25: no such keep", d.x().shadow(no, 0, 0, 0, 0), -100000000);
            d.due("25: no such weight", d.x().shadow(0, no, 0, 0, 0), -100000000);
            d.due("25: no such weight", d.x().shadow(0, 0, no, 0, 0), -100000000);
            d.due("25: no such weight", d.x().shadow(0, 0, 0, no, 0), -100000000);
            d.due("25: no such what", d.x().shadow(0, 0, 0, 0, no), -100000000);
        }
        d.due("25: no keep 2", d.x().shadow(2, 0, 0, 0, 0), -100000000);
        tell("of:1;least:x;keep:x>5;keep:x<5");
        d.due("25: nothing were allowed", d.x().shadow(0, 1, 0, 0, 0), -99999999);
        d.due("25: less than nothing more", d.x().shadow(1, 1, 0, 0, 0), d.x().shadow(1, 1, 0, 0, 1), 0, 1);
        d.due("25: no such what is ahead", d.x().shadow(0, 1, 0, 0, 2), -100000000);
        tell("of:1;least:x;keep:x>5");
        d.due("25: below 0", d.x().shadow(0, 3, 0, 0, 0), d.x().shadow(0, 3, 0, 0, 1), -3, 1);
        tell(EMPTY);
        d.due("25: no corners", d.x().shadow(1, 1, 0, 0, 0), -100000000);
    }

    private static void slack() {
        tell(KITE);
        d.due("26: slack", d.x().slack(3, 0, 0), d.x().slack(3, 0, 1), 4, 1);
        d.due("26: tight", d.x().slack(2, 0, 0), d.x().slack(2, 0, 1), 0, 1);
        d.due("26: of a box", d.x().slack(2, 4, 0), d.x().slack(2, 4, 1), 33, 5);
        d.due("26: of 0", d.x().slack(2, 3, 0), d.x().slack(2, 3, 1), 12, 5);
        tell("of:1;keep:x>3");
        d.due("26: no less", d.x().slack(1, 0, 0), d.x().slack(1, 0, 1), 6, 1);
        for (int no : new int[] {-1, 3, MANY, FEW}) {
            d.due("26: no such corner", d.x().slack(no, 0, 0), -1);
            d.due("26: no such plane", d.x().slack(0, no, 0), -1);
            d.due("26: no such what", d.x().slack(0, 0, no), -1);
        }
        d.due("26: no corner 2", d.x().slack(2, 0, 0), -1);
    }

    private static void middle() {
        tell(KITE);
        d.due("27: of all", d.x().middle(false, 0), d.x().middle(false, 1), 8, 5);
        d.due("27: of all", d.x().middle(false, 2), d.x().middle(false, 3), 8, 5);
        tell(SQUARE);
        d.due("27: of the efficient", d.x().middle(true, 0), d.x().middle(true, 1), 5, 1);
        d.due("27: of all", d.x().middle(false, 0), d.x().middle(false, 1), 18, 5);
        for (int no : new int[] {-1, 4, MANY, FEW}) {
            d.due("27: no such what", d.x().middle(true, no), -1);
        }
        tell(EMPTY);
        d.due("27: none", d.x().middle(false, 0), -2);
        d.due("27: none", d.x().middle(true, 3), -2);
        d.due("27: no such what is ahead", d.x().middle(true, 4), -1);
    }

    private static void ways() {
        tell(SQUARE);
        d.due("28: two", d.x().reach(0, 4, false), 2);
        d.due("28: one", d.x().reach(4, 2, true), 1);
        d.due("28: no way", d.x().reach(0, 4, true), -2);
        d.due("28: itself", d.x().reach(0, 0, true), 0);
        d.due("28: itself", d.x().reach(4, 4, false), 0);
        d.due("29: the lowest of like ones", d.x().far(0, 0), 2);
        d.due("29: how far", d.x().far(0, 1), 2);
        d.due("29: far from 2", d.x().far(2, 0), 0);
        d.due("29: not so many", d.x().far(5, 0), -4);
        d.due("29: no such what is ahead", d.x().far(5, 2), -1);
        d.due("29: no such corner", d.x().far(-1, 0), -1);
        d.due("30: on the way", d.x().along(2, 4, 3), 2);
        d.due("30: at the end", d.x().along(1, 4, 10), 2);
        d.due("30: ahead of the end", d.x().along(1, 4, 9), 1);
        d.due("30: at the beginning", d.x().along(4, 1, 0), 2);
        d.due("30: itself", d.x().along(2, 2, 5), 2);
        d.due("30: itself", d.x().along(0, 0, 10), 1);
        for (int no : new int[] {-1, 11, MANY, FEW}) {
            d.due("28: no such corner", d.x().reach(no, 0, false), -1);
            d.due("28: no such corner", d.x().reach(0, no, true), -1);
            d.due("29: no such what", d.x().far(0, no), -1);
            d.due("30: no such tenths", d.x().along(0, 1, no), -1);
            d.due("30: no such corner", d.x().along(no, 1, 0), -1);
            d.due("30: no such corner", d.x().along(1, no, 0), -1);
        }
        tell("of:1;keep:x<5;keep:x>5");
        d.due("29: alone", d.x().far(0, 0), 0);
        d.due("29: alone", d.x().far(0, 1), 0);
        tell("of:3");
        d.due("29: across the cube", d.x().far(0, 0), 7);
        d.due("29: across the cube", d.x().far(0, 1), 3);
        d.due("30: through the cube without wishes", d.x().along(0, 7, 5), 2);
    }

    private static void regret() {
        tell(SQUARE);
        d.due("31: regret", d.x().regret(0), d.x().regret(1), 6, 1);
        d.due("31: the lowest with it", d.x().regret(2), 2);
        tell("of:2;wish:x;wish:y;keep:2x+3y<12;keep:3x+2y<12");
        d.due("31: a fraction", d.x().regret(0), d.x().regret(1), 8, 5);
        d.due("31: a corner between", d.x().regret(2), 2);
        for (int no : new int[] {-1, 3, MANY, FEW}) {
            d.due("31: no such what", d.x().regret(no), -1);
        }
        d.due("31: without wishes", new SeveralWishes().regret(0), 0);
        d.due("31: without wishes", new SeveralWishes().regret(1), 1);
        tell(EMPTY);
        d.due("31: no corners", d.x().regret(1), -2);
        d.due("31: no such what is ahead", d.x().regret(3), -1);
    }

    private static void area() {
        tell(SQUARE);
        d.due("32: area", d.x().area(0), d.x().area(1), 92, 1);
        tell(KITE);
        d.due("32: a fraction", d.x().area(0), d.x().area(1), 96, 5);
        tell("of:2;keep:x>3;keep:y>2;box:x<7;box:y<4");
        d.due("32: away from 0", d.x().area(0), d.x().area(1), 16, 1);
        tell("of:2;keep:3x+y>5;keep:2x-3y<3;box:x<5;box:y<5");
        d.due("32: away from 0, askew", d.x().area(0), d.x().area(1), 1106, 33);
        tell("of:2;keep:x+y<5;keep:x+y>5");
        d.due("32: of a line", d.x().area(0), d.x().area(1), 0, 1);
        tell(EMPTY);
        d.due("32: of nothing", d.x().area(0), d.x().area(1), 0, 1);
        d.due("32: no such what", d.x().area(2), -1);
        d.due("32: no such what", d.x().area(-1), -1);
        tell(WEDGE);
        d.due("32: three quantities", d.x().area(0), -3);
        d.due("32: no such what is ahead", d.x().area(2), -1);
        d.due("32: one quantity", new SeveralWishes().area(1), -3);
    }

    private static void ranked() {
        tell(SQUARE);
        d.due("33: first", d.x().ranked(0, 0), 4);
        d.due("33: second", d.x().ranked(0, 1), 2);
        d.due("33: by the other", d.x().ranked(1, 0), 2);
        d.due("33: not so many", d.x().ranked(0, 2), -4);
        d.due("33: not so many", d.x().ranked(0, MANY), -4);
        d.due("33: no such", d.x().ranked(0, -1), -1);
        for (int no : new int[] {-1, 2, MANY, FEW}) {
            d.due("33: no such wish", d.x().ranked(no, 99), -1);
        }
        tell(WEDGE);
        int[] ranks = {3, 1, 2};
        for (int i = 0; i < 3; i++) {
            d.due("33: like ones, the lowest ahead", d.x().ranked(0, i), ranks[i]);
        }
    }

    private static void price() {
        tell("of:2;wish:x;wish:y;keep:2x+3y<12");
        d.due("34: price", d.x().price(1, 2, 1, 0, 0), d.x().price(1, 2, 1, 0, 1), -2, 3);
        d.due("34: the other way", d.x().price(2, 1, 1, 0, 0), d.x().price(2, 1, 1, 0, 1), -2, 3);
        d.due("34: turned round", d.x().price(1, 2, 0, 1, 0), d.x().price(1, 2, 0, 1, 1), -3, 2);
        d.due("34: does not change", d.x().price(0, 1, 1, 0, 0), -99999999);
        d.due("34: changes nothing", d.x().price(0, 1, 0, 1, 0), d.x().price(0, 1, 0, 1, 1), 0, 1);
        d.due("34: the same wish", d.x().price(0, 1, 0, 0, 0), -100000000);
        d.due("34: no edge to itself", d.x().price(1, 1, 0, 1, 0), -100000000);
        tell(SQUARE);
        d.due("34: no neighbours", d.x().price(0, 4, 0, 1, 0), -100000000);
        for (int no : new int[] {-1, 5, MANY, FEW}) {
            d.due("34: no such corner", d.x().price(no, 2, 0, 1, 0), -100000000);
            d.due("34: no such corner", d.x().price(2, no, 0, 1, 0), -100000000);
            d.due("34: no such wish", d.x().price(2, 4, no, 1, 0), -100000000);
            d.due("34: no such wish", d.x().price(2, 4, 0, no, 0), -100000000);
            d.due("34: no such what", d.x().price(0, 1, 1, 0, no), -100000000);
        }
    }

    private static void walk() {
        tell(SQUARE);
        d.due("35: where", d.x().walk(0, 1, 1, 0, 0), 2);
        d.due("35: how far", d.x().walk(0, 1, 1, 0, 1), 2);
        d.due("35: the other way", d.x().walk(0, 2, 1, 0, 0), 4);
        d.due("35: by nothing", d.x().walk(3, 0, 0, 9, 0), 3);
        d.due("35: by nothing", d.x().walk(3, 0, 0, 9, 1), 0);
        d.due("35: not so many", d.x().walk(5, 0, 0, 0, 0), -4);
        d.due("35: no such weight is ahead", d.x().walk(5, 10, 0, 0, 0), -1);
        for (int no : new int[] {-1, 10, MANY, FEW}) {
            d.due("35: no such weight", d.x().walk(0, no, 0, 0, 0), -1);
            d.due("35: no such weight", d.x().walk(0, 0, no, 0, 0), -1);
            d.due("35: no such weight", d.x().walk(0, 0, 0, no, 0), -1);
            d.due("35: no such what", d.x().walk(0, 0, 0, 0, no), -1);
        }
        d.due("35: no such corner", d.x().walk(-1, 0, 0, 0, 0), -1);
    }

    private static void chosen() {
        tell(SQUARE);
        d.due("36: without a law the lowest", d.x().chosen(0), 2);
        d.due("36: worth nothing", d.x().chosen(1), 0);
        // Of corners 2 and 4: i 2 4, a 2 8, b 8 2, c 0, t 2, n 2, e 1.
        String[][] laws = {
            {"vi(1=1)", "4", "4"}, {"vb(1=1)", "2", "8"}, {"v100-a(1=1)", "2", "98"}, {"vc+5(1=1)", "2", "5"},
            {"vt*100+n*10+e(1=1)", "2", "221"}, {"v9(i=4)", "4", "9"}, {"v9(i=0)", "2", "0"}, {"v0-9(i=2)", "4", "0"},
            {"v7(a=8);v9(1=1)", "2", "9"}, {"v7(1=1);v9(a=8)", "2", "7"}, {"v99999(i=4)", "4", "9999"},
            {"v0-99999(1=1)", "2", "-9999"}, {"v99999*99999(1=1)", "2", "9999"},
            {"v65536*32768/[0-1](1=1)", "2", "-9999"}, {"v65536*32768%[0-1](1=1)", "2", "0"},
            {"v[0-7]/2(1=1)", "2", "-3"}, {"v[0-7]%4(1=1)", "2", "-3"}, {"v10-2-3(1=1)", "2", "5"},
            {"v20/3*2(1=1)", "2", "12"}, {"v2+3*4(1=1)", "2", "14"}, {"v[2+3]*4(1=1)", "2", "20"},
            {"v5/c(1=1);v8(1=1)", "2", "0"}, {"v5%[a-8](1=1)", "2", "5"}, {"v5(1/c=0);v8(1=1)", "2", "8"},
            {"v5(1=1|1/c=0)", "2", "5"}, {"v5(1/c=0|1=1)", "2", "0"}, {"v5(1=2&1/c=0|1=1)", "2", "5"},
            {"v5(!1/c=0)", "2", "0"}, {"v5(!(1=1|1/c=0)|2=2)", "2", "5"}, {"v5(1=1&1/c=0|1=1)", "2", "0"},
            {"x(i=2)", "4", "0"}, {"x(i<9)", "-100000", "-100000"}, {"x(1/c=0)", "2", "0"}, {"x(i=2);x(i=9)", "4", "0"},
            {"v5(i=2);x(i=2)", "4", "0"}, {"v5(a<b)", "2", "5"}, {"v5(a>b)", "4", "5"}, {"v5(!a>b)", "2", "5"},
            {"v5(1=1|1=1&1=2)", "2", "5"}, {"v5((1=1|1=1)&1=2)", "2", "0"}, {"v5(!1=2&1=2)", "2", "0"},
        };
        for (String[] law : laws) {
            d.due("36: " + law[0], d.law(law[0]) > 0 ? 1 : 0, 1);
            d.due("36: " + law[0], d.x().chosen(0), Integer.parseInt(law[1]));
            d.due("36: " + law[0] + " worth", d.x().chosen(1), Integer.parseInt(law[2]));
        }
        tell(BOW);
        d.law("vt*100+n*10+e(i=2)");
        d.due("36: efficient neighbours, whatever the edge", d.x().chosen(1), 432);
        d.law("v5(i=0);x(i=1);x(i=2)");
        d.due("36: what is not efficient is not asked", d.x().chosen(0), 3);
        d.due("36: of a new object", new SeveralWishes().chosen(0), 0);
        for (int no : new int[] {-1, 2, MANY, FEW}) {
            d.due("36: no such what", d.x().chosen(no), -100001);
        }
        tell("of:2;least:x;least:y;keep:2x+2y>5");
        d.law("va*10+b(1=1)");
        d.due("36: rounded down", d.x().chosen(1), -3);
        tell(EMPTY);
        d.due("36: no corners", d.x().chosen(1), -100000);
        d.due("36: no such what is ahead", d.x().chosen(2), -100001);
    }

    private static void spelt() {
        tell(KITE);
        String[] texts = {"0,0", "0,4", "12/5,12/5", "4,0"};
        for (int i = 0; i < 4; i++) {
            d.due("37: spelt " + i, d.spelt(i), texts[i]);
            d.due("37: behind", d.x().spelt(i, texts[i].length()), -2);
            d.due("37: far behind", d.x().spelt(i, MANY), -2);
        }
        d.due("37: not so many", d.x().spelt(4, 0), -4);
        d.due("37: not so many", d.x().spelt(4, MANY), -4);
        d.due("37: no such", d.x().spelt(4, -1), -1);
        d.due("37: no such", d.x().spelt(-1, 0), -1);
        tell("of:3;keep:3x-3y+z<1;keep:2x+3y-3z>2;keep:x+3y+2z<17");
        for (int i = 0; i < d.x().all(0); i++) {
            StringBuilder text = new StringBuilder();
            for (int q = 0; q < 3; q++) {
                long low = d.x().corner(i, 2 * q + 1);
                text.append(q > 0 ? "," : "").append(d.x().corner(i, 2 * q)).append(low == 1 ? "" : "/" + low);
            }
            d.due("37: spelt " + i, d.spelt(i), text.toString());
        }
    }

    private static void keepAndUndo() {
        tell(SQUARE);
        d.law("vi(1=1)");
        d.due("39: none was kept", d.x().undo() ? 1 : 0, 0);
        d.due("39: which changes nothing", d.x().all(0), 5);
        d.due("38: kept", d.x().keep(), 5);
        d.problem(WEDGE);
        d.law("v1(1=1);v2(1=1)");
        d.due("39: undone", d.x().undo() ? 1 : 0, 1);
        d.due("39: the problem", d.x().problemIs(11), 8);
        d.due("39: its corners", d.x().all(0), 5);
        d.due("39: its efficient ones", d.x().all(2), 2);
        d.due("39: the law stays", d.x().count(0), 2);
        d.problem("of:1;wish:3x");
        d.due("39: undone once more", d.x().undo() ? 1 : 0, 1);
        d.due("39: the problem", d.x().wish(1, 1), 1);
        d.problem(WEDGE);
        d.due("38: kept anew", d.x().keep(), 4);
        d.problem(EMPTY);
        d.due("39: as kept last", d.x().undo() ? 1 : 0, 1);
        d.due("39: as kept last", d.x().wish(2, 2), 1);
        d.problem(EMPTY);
        d.due("38: of nothing", d.x().keep(), 0);
        d.feed("a");
        d.x().undo();
        d.due("39: the tape stays", d.x().count(1), 20);
        d.x().keep();
        d.due("38: the tape stays", d.x().count(1), 20);
    }

    private static void check() {
        tell(KITE);
        d.due("40: right", d.check(1, 1, 5, 1), -1);
        d.due("40: the tape is empty", d.x().count(1), 0);
        d.due("40: right, and none beyond", d.check(1, 1, 5, 1, 255, 255), -1);
        d.due("40: wrong", d.check(1, 1, 1, 9), 2);
        d.due("40: none there", d.check(1, 1, 5, 1, 1), 4);
        d.due("40: none there", d.check(1, 1, 5, 255), 3);
        d.feed("a");
        d.due("40: of nothing", d.x().check(0), -1);
        d.due("40: the tape is empty", d.x().count(1), 0);
        d.due("40: of no tape", d.x().check(0), -1);
        d.feed("a");
        for (int no : new int[] {-1, 21, 61, MANY, FEW}) {
            d.due("40: no such n", d.x().check(no), -2);
        }
        d.due("40: the tape stays", d.x().count(1), 20);
        int[] sixty = new int[60];
        java.util.Arrays.fill(sixty, 255);
        sixty[0] = 1;
        sixty[1] = 1;
        sixty[2] = 5;
        sixty[3] = 1;
        d.x().check(0);
        d.due("40: sixty", d.check(sixty), -1);
        d.feed("aaaaaaaaaaaaaaaaaaaaaaaaaaaaaaaaaaaaaaaaaaaaaaaaaaaaaaaaaaaaaaaaaaaaaaa");
        d.due("40: 61", d.x().check(61), -2);
    }

    private static void count() {
        d.fresh();
        d.due("41: rules", d.x().count(0), 0);
        d.law("x(1=1);v1(1=1)");
        d.due("41: rules", d.x().count(0), 2);
        d.feed("a");
        d.due("41: bytes", d.x().count(1), 20);
        for (int no : new int[] {-1, 2, MANY, FEW}) {
            d.due("41: none", d.x().count(no), -1);
        }
    }

    /** A call that is refused, and one that only asks, changes nothing. */
    private static void refusalsChangeNothing() {
        tell(SQUARE);
        d.law("vi(1=1)");
        d.problem("of:3;wish:x;least:z;keep:x+y<3;box:y<2;box:y<1");
        d.law("v1(1=1);x(2=2);x");
        d.x().problem(0);
        d.x().law(-3);
        d.x().undo();
        d.due("refused: wishes", d.x().problemIs(1), 2);
        d.due("refused: quantities", d.x().problemIs(0), 2);
        d.due("refused: box", d.x().problemIs(11), 8);
        d.due("refused: number", d.x().plane(0, 3), 10);
        d.due("refused: wish", d.x().wish(1, 1), 1);
        d.due("refused: law", d.x().chosen(1), 4);
        long before = d.x().heldAt(0, 1, 5, 0);
        d.x().gain(1, 1, 0, 0);
        d.x().needed(0);
        d.x().shadow(0, 1, 2, 3, 0);
        d.x().whole(1, 2, 3, 0);
        d.x().turn(0);
        d.due("asked: held", d.x().heldAt(0, 1, 5, 0), before);
        d.due("asked: efficient", d.x().all(2), 2);
        d.due("asked: corner", d.x().corner(4, 0), 8);
    }
}
