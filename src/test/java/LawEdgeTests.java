/**
 * Promise 36 and THE LAW as it is reckoned, sentence by sentence: bounds of worth, 32 bits, what is divided by 0,
 * what is not asked, letters that stand for nothing. Each check begins with the promise.
 */
public final class LawEdgeTests {
    private static final Desk d = new Desk("LawEdgeTests");
    private static final int NO_SUCH = -100000;
    /** EFFICIENT are CORNERS 2 and 4; i 2 4, a 2 8, b 8 2, c 0 0, t 2 2, n 2 2, e 1 1. */
    private static final String SQUARE = "of:2;wish:x;wish:y;keep:x+y<10;box:x<8;box:y<8";
    private static final String EMPTY = "of:2;wish:x;wish:y;keep:x>5;keep:x<4";
    /** 2147483647, and -2147483648. */
    private static final String MOST = "[65536*32767+65535]";
    private static final String LEAST = "[65536*32768]";

    public static void main(String[] args) {
        withoutALaw();
        bounds();
        firstRule();
        refused();
        oneOfAllOf();
        fromTheLeft();
        thirtyTwoBits();
        dividedByNothing();
        notAsked();
        letters();
        ties();
        wrongInputs();
        d.end();
    }

    private static void chosen(String sentence, String problem, String law, int corner, int worth) {
        d.due("36: " + problem + " stands", d.fresh().problem(problem) >= 0 ? 1 : 0, 1);
        d.due("36: " + law + " stands", d.law(law) > 0 ? 1 : 0, 1);
        d.due("36: " + sentence + ": " + law, d.x().chosen(0), corner);
        d.due("36: " + sentence + ", its worth: " + law, d.x().chosen(1), worth);
    }

    private static void chosen(String sentence, String law, int corner, int worth) {
        chosen(sentence, SQUARE, law, corner, worth);
    }

    private static void worth(String sentence, String sum, int worth) {
        chosen(sentence, "v" + sum + "(1=1)", 2, worth);
    }

    /** The worth is 5 if the C holds, else 0. */
    private static void holds(String sentence, String condition, boolean due) {
        chosen(sentence, "v5(" + condition + ")", 2, due ? 5 : 0);
    }

    private static void withoutALaw() {
        d.fresh();
        d.due("36: no LAW at first: the lowest", d.x().chosen(0), 0);
        d.due("36: no LAW at first: worth 0", d.x().chosen(1), 0);
        d.problem(SQUARE);
        d.due("36: no LAW: the lowest EFFICIENT one", d.x().chosen(0), 2);
        d.due("36: no LAW: worth 0", d.x().chosen(1), 0);
        d.law("v5(i=4)");
        d.due("36: a LAW", d.x().chosen(0), 4);
        d.law("v6(i=2)");
        d.due("36: in place of the one before", d.x().chosen(0), 2);
        d.due("36: in place of the one before", d.x().chosen(1), 6);
        d.law("v7(i=4");
        d.due("36: a FAULT, the one before stays", d.x().chosen(1), 6);
        d.due("36: a FAULT, the one before stays", d.x().count(0), 1);
    }

    private static void bounds() {
        worth("-9999 to 9999", "9998", 9998);
        worth("-9999 to 9999", "9999", 9999);
        worth("beyond its bounds the bound", "10000", 9999);
        worth("beyond its bounds the bound", "99999", 9999);
        worth("beyond its bounds the bound", MOST, 9999);
        worth("-9999 to 9999", "0-9998", -9998);
        worth("-9999 to 9999", "0-9999", -9999);
        worth("beyond its bounds the bound", "0-10000", -9999);
        worth("beyond its bounds the bound", LEAST, -9999);
        worth("within E there is no bound", "10000-9999", 1);
        worth("within E there is no bound", "99999*9-99999*9+3", 3);
        chosen("beyond the bound all are alike", "v9997+i(1=1)", 2, 9999);
        chosen("below the bound all are alike", "vi-10003(1=1)", 2, -9999);
        chosen("one below the bound is not", "v9995+i(1=1)", 4, 9999);
        worth("0", "0", 0);
    }

    private static void firstRule() {
        chosen("none: 0", "v5(1=2)", 2, 0);
        chosen("none: 0, more than below 0", "v0-1(i=2)", 4, 0);
        chosen("the first RULE of v whose C holds", "v1(1=2);v2(1=1);v3(1=1)", 2, 2);
        chosen("the first, though it is worth less", "v1(1=1);v2(1=1)", 2, 1);
        chosen("the first, though it is worth 0", "v0(1=1);v2(1=1)", 2, 0);
        chosen("the last", "v1(1=2);v2(1=2);v3(1=1)", 2, 3);
        String fifteen = "v9(1=2)" + ";v9(1=2)".repeat(14);
        chosen("the 16th", fifteen + ";vi(1=1)", 4, 4);
        chosen("each CORNER by its own", "v1(i=2);v2(i=4)", 4, 2);
        chosen("RULES of x between", "x(1=2);v3(1=1);x(1=2);v4(1=1)", 2, 3);
    }

    private static void refused() {
        chosen("x it is refused", "x(i=2)", 4, 0);
        chosen("the most worth, but refused", "v9(i=4);x(i=4)", 2, 0);
        chosen("any will do: the first", "x(i=2);x(1=2)", 4, 0);
        chosen("any will do: the last", "x(1=2);x(1=2);x(i=2)", 4, 0);
        chosen("any will do: the 16th", "x(1=2)" + ";x(1=2)".repeat(14) + ";x(i=2)", 4, 0);
        chosen("ahead of v", "x(i=4);v9(i=4);v1(1=1)", 2, 1);
        chosen("without an x in THE LAW none is", "v0-9999(1=1)", 2, -9999);
        chosen("an x whose C does not hold refuses none", "x(1=2)", 2, 0);
        chosen("all are refused", "x(1=1)", NO_SUCH, NO_SUCH);
        chosen("all are refused by one each", "x(i=2);v5(1=1);x(i=4)", NO_SUCH, NO_SUCH);
        chosen("what is not EFFICIENT is not asked", "v9(i=0);v8(i=1);v7(i=3)", 2, 0);
    }

    private static void oneOfAllOf() {
        holds("one of the PARTS must hold: the first", "1=1|1=2", true);
        holds("one of the PARTS must hold: the last", "1=2|1=3|1=1", true);
        holds("one of the PARTS must hold: none does", "1=2|1=3|1=4", false);
        holds("all TESTS must", "1=1&2=2&3=3", true);
        holds("all TESTS must: not the first", "1=2&2=2&3=3", false);
        holds("all TESTS must: not the last", "1=1&2=2&3=4", false);
        holds("a PART is within", "1=1|1=1&1=2", true);
        holds("a PART is within", "1=2&1=1|1=1", true);
        holds("(C)", "(1=1|1=1)&1=2", false);
        holds("(C)", "1=2&(1=1|1=1)", false);
        holds("!TEST", "!1=2", true);
        holds("!TEST", "!1=1", false);
        holds("!TEST of one TEST", "!1=2&1=2", false);
        holds("!TEST of one TEST", "!1=1|1=1", true);
        holds("!(C)", "!(1=2&1=2)", true);
        holds("!!", "!!1=1", true);
        holds("<: like is not less", "2<2", false);
        holds("<", "1<2", true);
        holds("<", "3<2", false);
        holds(">: like is not more", "2>2", false);
        holds(">", "3>2", true);
        holds(">", "1>2", false);
        holds("=", "2=2", true);
        holds("=", "2=3", false);
        holds("TERMS ahead of TESTS", "1+1=2", true);
        holds("TERMS ahead of TESTS", "2=1+1", true);
    }

    private static void fromTheLeft() {
        worth("from the left on", "10-2-3", 5);
        worth("from the left on", "10-2+3", 11);
        worth("from the left on", "100/10/5", 2);
        worth("from the left on", "100/10*5", 50);
        worth("from the left on", "2*7%5", 4);
        worth("from the left on", "7%5*2", 4);
        worth("from the left on", "20/3*2", 12);
        worth("from the left on", "29%10%4", 1);
        worth("FACTORS ahead of TERMS", "2+3*4", 14);
        worth("FACTORS ahead of TERMS", "20-6/3", 18);
        worth("FACTORS ahead of TERMS", "2*3+4*5", 26);
        worth("[E]", "[2+3]*4", 20);
        worth("[E]", "20-[6-3]", 17);
        worth("a number of one digit", "7", 7);
        worth("a number of five digits", "99999-90000-9999", 0);
        worth("a number of five digits", "00012", 12);
    }

    private static void thirtyTwoBits() {
        worth("32 bits: the most there is", MOST + "-65536*32767-65535+8", 8);
        worth("32 bits: the most and one", MOST + "+1", -9999);
        worth("32 bits: the least and one less", LEAST + "-1", 9999);
        worth("32 bits: 0 less the least", "0-" + LEAST, -9999);
        worth("32 bits: of a product", "65536*65536+7", 7);
        worth("32 bits: of a product", "46340*46340", 9999);
        worth("32 bits: of a product", "46341*46341", -9999);
        worth("32 bits: of a product", "99999*99999", 9999);
        worth("32 bits: twice the least", LEAST + "*2+5", 5);
        holds("32 bits: in a TEST", MOST + "+1<0", true);
        holds("32 bits: in a TEST", MOST + ">0", true);
        holds("32 bits: in a TEST", LEAST + "=" + MOST + "+1", true);
        holds("32 bits: in a TEST", LEAST + "<" + MOST, true);
        holds("32 bits: in a TEST", MOST + ">" + LEAST, true);
        worth("as the machine does: the least by -1", LEAST + "/[0-1]", -9999);
        worth("as the machine does: the least by -1", LEAST + "/[0-1]-1", 9999);
        worth("as the machine does: the rest by -1", LEAST + "%[0-1]+6", 6);
        worth("as the machine does: to 0", "[0-7]/2", -3);
        worth("as the machine does: to 0", "7/[0-2]", -3);
        worth("as the machine does: to 0", "[0-7]/[0-2]", 3);
        worth("as the machine does: the rest", "[0-7]%4", -3);
        worth("as the machine does: the rest", "7%[0-4]", 3);
        worth("as the machine does: the rest", "[0-7]%[0-4]", -3);
        worth("as the machine does: 0 by something", "0/5+0%5+4", 4);
    }

    private static void dividedByNothing() {
        worth("the E of it is 0", "1/0", 0);
        worth("the E of it is 0", "1%0", 0);
        worth("the E of it is 0", "0/0", 0);
        worth("the E of it is 0: all of it", "5+1/0", 0);
        worth("the E of it is 0: all of it", "1/0+5", 0);
        worth("the E of it is 0: all of it", "5-[3+1%0]*2", 0);
        worth("the E of it is 0: all of it", "8/c+8", 0);
        worth("the E of it is 0: all of it", "8/[65536*65536]+8", 0);
        chosen("the E is 0, yet its C holds", "v1/0(1=1);v6(1=1)", 2, 0);
        chosen("the E is 0 where its C does not hold, too", "v1/0(1=2);v6(1=1)", 2, 6);
        chosen("of one CORNER", "v9/[a-2]+1(1=1)", 4, 2);
        holds("then the C does not hold", "1/0=0", false);
        holds("then the C does not hold", "1%0=0", false);
        holds("then the C does not hold", "0=1/0", false);
        holds("then the C does not hold", "!1/0=0", false);
        holds("then the C does not hold", "!(1/0=0)", false);
        holds("then the C does not hold", "1/0<1", false);
        holds("then the C does not hold", "1/0>0-1", false);
        holds("the whole C", "1/0=1|1=1", false);
        holds("the whole C", "(1/0=1|1=1)|1=1", false);
        holds("the whole C", "1=1&1/0=1|1=1", false);
        holds("the whole C", "!(1/0=1&1=1)|1=1", false);
        holds("the whole C", "1=2|[1%0]=1|1=1", false);
        chosen("the C of that RULE", "v5(1/0=0);v6(1=1)", 2, 6);
        chosen("the C of that RULE", "v6(1=1);v5(1/0=0)", 2, 6);
        chosen("the C of that RULE", "x(1/0=0);v6(1=1)", 2, 6);
        chosen("the C of that RULE", "x(1/0=0);x(i=2)", 4, 0);
        chosen("the E is by itself", "v5(1/0=0);v7-2(1=1)", 2, 5);
        chosen("the E of that RULE", "v1/0(1=2);v7(1=1)", 2, 7);
    }

    private static void notAsked() {
        holds("as much is asked, from the left, as matters: behind what holds", "1=1|1/0=0", true);
        holds("behind what does not hold", "1=2&1/0=0|1=1", true);
        holds("behind what does not hold: no PART does", "1=2&1/0=0", false);
        holds("all of a later PART is not asked", "1=1|1=1&1/0=0|1/0=0", true);
        holds("what is in ( ) is not asked", "1=1|(1=1&(1/0=0))", true);
        holds("what is in ( ) is not asked", "1=2&(1=1|1/0=0)|1=1", true);
        holds("what is behind ! is not asked", "1=1|!1/0=0", true);
        holds("within ( )", "(1=1|1/0=0)&1=1", true);
        holds("within !( )", "!(1=1|1/0=0)|2=2", true);
        holds("within !( )", "!(1=2&1/0=0)", true);
        holds("both sides of a TEST are asked", "1=2+0/0", false);
        holds("asked where it matters", "1=2|1/0=0", false);
        holds("asked where it matters", "1=1&1/0=0", false);
        holds("asked where it matters", "!1=1|1/0=0|1=1", false);
        holds("asked where it matters", "!1=2&1/0=0|1=1", false);
        chosen("for one CORNER it matters, for one not", "v5(i=2|1/[i-4]<0)", 2, 5);
        chosen("for one CORNER it matters, for one not", "v5(i=4|1/[i-2]<0)", 4, 5);
    }

    private static void letters() {
        String[][] letters = {{"i", "2", "4"}, {"a", "2", "8"}, {"b", "8", "2"}, {"c", "0", "0"}, {"t", "2", "2"},
            {"n", "2", "2"}, {"e", "1", "1"}};
        for (String[] letter : letters) {
            chosen("a letter", "v" + letter[0] + "(i=2);v0-99(1=1)", 2, Integer.parseInt(letter[1]));
            chosen("a letter", "v" + letter[0] + "(i=4);v0-99(1=1)", 4, Integer.parseInt(letter[2]));
        }
        chosen("none such: 0", "of:1", "va+b+c+5(1=1)", 0, 5);
        chosen("none such: 0", "of:1;wish:x", "va*10+b+c(1=1)", 1, 90);
        chosen("none such: 0", SQUARE, "v5/c+5(1=1)", 2, 0);
        chosen("all three", "of:3;wish:x;wish:2y;wish:3z", "va*100+b*10+c(1=1)", 7, 900 + 180 + 27);
        String half = ";keep:2x>5;keep:2x<5";
        chosen("rounded down", "of:1;wish:x;least:x" + half, "va*10+b(1=1)", 0, 17);
        chosen("rounded down: not where it is whole", "of:1;wish:2x;least:2x" + half, "va*10+b(1=1)", 0, 45);
        chosen("rounded down: between 0 and -1", "of:1;least:x;wish:x;keep:3x>1;keep:3x<1", "va*10+b(1=1)", 0, -10);
        chosen("rounded down: by 2/3", "of:1;least:x;wish:x;keep:3x>2;keep:3x<2", "va*10+b(1=1)", 0, -10);
        chosen("rounded down: 0 is 0", "of:1;least:x;wish:x;keep:x<0", "va*10+b+1(1=1)", 0, 1);
        chosen("t: all PLANES that are TIGHT", "of:3;keep:x-x<0;keep:y-y>0;keep:x+y+z>0;keep:x+y-z>0", "vt(1=1)", 0, 7);
        chosen("n, e: none", "of:2" + half + ";keep:3y>7;keep:3y<7", "vn*10+e+1(1=1)", 0, 1);
        chosen("n, e: all", "of:3", "vn*10+e(1=1)", 0, 33);
        chosen("n, e: CORNER 0 is one", "of:1", "vn*10+e(i=1)", 1, 11);
        chosen("e: none of them", "of:2;wish:x+y", "vn*10+e(1=1)", 3, 20);
        chosen("e: whatever the EDGE is", "of:3;wish:3x+2z;wish:3y+2z;keep:x+y+z<9", "vt*100+n*10+e(i=2)", 2, 432);
        chosen("i: the last of sixteen", "of:3;wish:x;least:x;keep:x+y+z<24;keep:x+y+z>3;keep:x-y-z<6;keep:y-x-z<6",
                "vi(1=1)", 15, 15);
        chosen("i: 0", "of:1;least:x", "v5-i(i=0)", 0, 5);
    }

    private static void ties() {
        chosen("of like ones the lowest", "v5(1=1)", 2, 5);
        chosen("of like ones the lowest", "vt+n-9(1=1)", 2, -5);
        chosen("of like ones the lowest", "of:3", "v3(1=1);x(i=9)", 0, 3);
        chosen("of like ones the lowest that is not refused", "of:3", "v3(1=1);x(i<3)", 3, 3);
        chosen("the most worth: one more", "v5(i=2);v6(i=4)", 4, 6);
        chosen("the most worth below 0", "v0-5(i=2);v0-4(i=4)", 4, -4);
    }

    private static void wrongInputs() {
        for (int what : new int[] {-1, 2, 3, Integer.MAX_VALUE, Integer.MIN_VALUE}) {
            d.fresh();
            d.due("36: no such what " + what, d.x().chosen(what), -100001);
            d.problem(EMPTY);
            d.due("36: no such what " + what + ", no CORNERS", d.x().chosen(what), -100001);
        }
        d.fresh().problem(EMPTY);
        d.due("36: there is none: no CORNERS", d.x().chosen(0), NO_SUCH);
        d.due("36: there is none: no CORNERS", d.x().chosen(1), NO_SUCH);
        d.law("v5(1=1)");
        d.due("36: there is none: no CORNERS, a LAW", d.x().chosen(1), NO_SUCH);
    }
}
