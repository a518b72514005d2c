/**
 * Promises 3 and 4 and the Terms of their texts, sentence by sentence: what is the last that may stand, the first
 * that may not, nothing at all, as much as goes in. Each check begins with the promise and the words it holds to.
 */
public final class TextEdgeTests {
    private static final Desk d = new Desk("TextEdgeTests");
    private static final int MANY = Integer.MAX_VALUE;
    private static final int FEW = Integer.MIN_VALUE;

    public static void main(String[] args) {
        lengthOfAProblem();
        endOfAProblem();
        everySignOfAProblem();
        words();
        quantities();
        numbersOfKeeps();
        numbersOfBoxes();
        timesTaken();
        fullOfWishesAndKeeps();
        boxesTwice();
        quantitiesThatAreNot();
        lengthOfALaw();
        endOfALaw();
        everySignOfALaw();
        digitsOfALaw();
        seventeenRules();
        sixOpen();
        d.end();
    }

    private static void problem(String sentence, String text, int due) {
        d.due("4: " + sentence + ": " + text, d.fresh().problem(text), due);
    }

    private static void law(String sentence, String text, int due) {
        d.due("3: " + sentence + ": " + text, d.fresh().law(text), due);
    }

    private static String times(String text, int many) {
        return text.repeat(many);
    }

    // The length.

    private static void lengthOfAProblem() {
        for (int n : new int[] {0, -1, 201, 260, MANY, FEW}) {
            d.fresh().feed("of:1;box:x<9" + times("a", 248));
            d.due("4: n 1 to 200, not " + n, d.x().problem(n), -1);
            d.due("4: n " + n + ", the tape stays", d.x().count(1), 260);
            d.due("4: what stays on the tape is read then", d.x().problem(12), 2);
        }
        d.fresh();
        d.due("4: it has not so many: none", d.x().problem(1), -1);
        d.feed("of:3");
        d.due("4: it has not so many: one less", d.x().problem(21), -1);
        d.due("4: it has not so many, the tape stays", d.x().count(1), 20);
        d.due("4: it has so many", d.x().problem(20), -1004);
        d.due("4: empty then", d.x().count(1), 0);
        d.due("4: one byte", d.fresh().problem("o"), -1000);
        String longest = "of:1;wish:x" + times("-x+x", 47);
        d.due("4: at most 200 bytes", (longest + "-x").length(), 201);
        problem("199 bytes", longest, 2);
        problem("200 bytes", "of:2;wish:2x" + longest.substring(11), 4);
        problem("200 bytes, the last can't stand there", longest + "-", -1200);
        d.fresh().feed(longest + "-x");
        d.due("4: 201 bytes", d.x().problem(201), -1);
        d.due("4: 201 bytes, the tape stays", d.x().count(1), 220);
        d.due("4: 200 of these", d.x().problem(200), -1200);
        d.due("4: empty then, of more than is read", d.x().count(1), 0);
    }

    private static void lengthOfALaw() {
        for (int n : new int[] {0, -1, 241, 260, MANY, FEW}) {
            d.fresh().feed("v5(i=0)" + times("a", 253));
            d.due("3: n 1 to 240, not " + n, d.x().law(n), -1);
            d.due("3: n " + n + ", the tape stays", d.x().count(1), 260);
            d.due("3: what stays on the tape is read then", d.x().law(7), 1);
        }
        d.fresh();
        d.due("3: it has not so many: none", d.x().law(1), -1);
        d.feed("v5(i=0)");
        d.due("3: it has not so many: one less", d.x().law(21), -1);
        d.due("3: it has not so many, the tape stays", d.x().count(1), 20);
        d.due("3: it has so many", d.x().law(20), -1007);
        d.due("3: empty then", d.x().count(1), 0);
        law("one byte", "v", -1001);
        String longest = "v7" + times("+1", 116) + "(i=0)";
        law("239 bytes", longest, 1);
        law("240 bytes", "v70" + longest.substring(2), 1);
        d.due("3: 240 bytes are asked to the end", d.x().chosen(1), 186);
        law("240 bytes, the last can't stand there", longest + ";", -1240);
        d.fresh().feed("v70" + longest.substring(2) + ";x(1=1)");
        d.due("3: 241 bytes", d.x().law(241), -1);
        d.due("3: 241 bytes, the tape stays", d.x().count(1), 260);
        d.due("3: 240 of these", d.x().law(240), 1);
        d.due("3: empty then, of more than is read", d.x().count(1), 0);
    }

    // The end, and a sign that can't stand there.

    private static final String PROBLEM = "of:2;wish:-2x+3y;least:y;keep:x-3y<12;box:y<5";
    /** Where the fault is if the text ends behind so many bytes, or goes on there with what can't stand; -1: none. */
    private static final int[] PROBLEM_ENDS = {0, 0, 2, 3, -1, 5, 5, 5, 5, 9, 10, 11, 12, -1, 14, 15, -1, 17, 17, 17,
        17, 17, 22, 23, -1, 25, 25, 25, 25, 29, 30, 31, 32, 33, 34, 35, -1, -1, 38, 38, 38, 41, 42, 43, 44, -1};

    private static void endOfAProblem() {
        for (int n = 1; n <= PROBLEM.length(); n++) {
            String text = PROBLEM.substring(0, n);
            int at = PROBLEM_ENDS[n];
            int answer = d.fresh().problem(text);
            d.due("4: 1 the end, too: " + text, at < 0 ? Math.min(answer, 0) : answer, at < 0 ? 0 : -1000 - at);
        }
        for (int n = 0; n <= PROBLEM.length(); n++) {
            for (char sign : new char[] {0, 10, ' ', '!', '/', 'A', 'Z', '`', '{', 127, 128, 255}) {
                int at = PROBLEM_ENDS[n] < 0 ? n : PROBLEM_ENDS[n];
                problem("1 what can't stand there", PROBLEM.substring(0, n) + sign, -1000 - at);
                problem("the first from the left", PROBLEM.substring(0, n) + sign + ";wish:z;box:x<0", -1000 - at);
            }
        }
    }

    private static final String LAW = "v[i-3]*2(!a<b&(t=3|n>e));x(c=10)";

    private static void endOfALaw() {
        for (int n = 1; n <= LAW.length(); n++) {
            String text = LAW.substring(0, n);
            law("1 the end, too", text, n == 24 ? 1 : n == 32 ? 2 : -1000 - n);
        }
        for (int n = 0; n <= LAW.length(); n++) {
            for (char sign : new char[] {0, 10, ' ', '$', ':', 'V', 'd', 'w', '{', 127, 128, 255}) {
                law("1 what can't stand there", LAW.substring(0, n) + sign, -1000 - n);
                law("the first from the left", LAW.substring(0, n) + sign + "123456;v", -1000 - n);
            }
        }
    }

    /** Behind each beginning: the signs that can stand there; any other one is fault 1 at this place. */
    private static void everySignOfAProblem() {
        String letters = "abcdefghijklmnopqrstuvwxyz";
        String[][] places = {
            {"of", ":" + letters}, {"of:", "123"}, {"of:3", ";"}, {"of:3;wish", ":" + letters},
            {"of:3;wish:", "-23xyz"}, {"of:3;wish:-", "23xyz"}, {"of:3;wish:2", "xyz"}, {"of:3;wish:-3", "xyz"},
            {"of:3;wish:x", "+-;"}, {"of:3;wish:x+", "23xyz"}, {"of:3;wish:x-", "23xyz"}, {"of:3;wish:x+2", "xyz"},
            {"of:3;wish:x+2y", "+-;"}, {"of:3;least", ":" + letters}, {"of:3;least:", "-23xyz"},
            {"of:3;least:-", "23xyz"}, {"of:3;least:z", "+-;"}, {"of:3;keep", ":" + letters},
            {"of:3;keep:", "-23xyz"}, {"of:3;keep:-", "23xyz"}, {"of:3;keep:2", "xyz"}, {"of:3;keep:x", "+-<>"},
            {"of:3;keep:x-y", "+-<>"}, {"of:3;keep:x<", "0123456789"}, {"of:3;keep:x>", "0123456789"},
            {"of:3;keep:x<0", "0123456789;"}, {"of:3;keep:x>9", "0123456789;"}, {"of:3;box", ":" + letters},
            {"of:3;box:", "xyz"}, {"of:3;box:x", "<"}, {"of:3;box:x<", "0123456789"}, {"of:3;box:x<9", "0123456789;"},
        };
        for (String[] place : places) {
            for (char sign = 0; sign < 256; sign++) {
                int answer = d.fresh().problem(place[0] + sign);
                int here = -1000 - place[0].length();
                boolean stands = place[1].indexOf(sign) >= 0;
                d.due("4: behind " + place[0] + " sign " + (int) sign, answer == here ? 1 : 0, stands ? 0 : 1);
            }
        }
        for (char sign = 0; sign < 256; sign++) {
            boolean isDigit = sign >= '0' && sign <= '9';
            problem("behind two digits", "of:3;keep:x<12" + sign, isDigit ? -2014 : sign == ';' ? -1015 : -1014);
            problem("behind two digits", "of:3;box:x<09" + sign, isDigit ? -2013 : sign == ';' ? -1014 : -1013);
            problem("where a word begins", "of:3;" + sign, -1005);
            problem("where the text begins", "" + sign, -1000);
        }
    }

    private static void everySignOfALaw() {
        String digits = "0123456789";
        String factor = "[" + digits + "iabctne";
        String sum = "+-*/%";
        String[][] places = {
            {"v", factor}, {"v[", factor}, {"v[[", factor}, {"v[i", sum + "]"}, {"v[i]", sum + "("}, {"vi", sum + "("},
            {"v12345", sum + "(" + digits}, {"v1", sum + "(" + digits}, {"v[1", sum + "]" + digits}, {"vi+", factor},
            {"vi-", factor}, {"vi*", factor}, {"vi/", factor}, {"vi%", factor}, {"vi(", factor + "!("},
            {"x", "("}, {"x(", factor + "!("}, {"x((", factor + "!("}, {"x(!", factor + "!("}, {"x(!!", factor + "!("},
            {"x([", factor}, {"x(i", sum + "<>="}, {"x(1", sum + "<>=" + digits}, {"x([i]", sum + "<>="},
            {"x(i+", factor}, {"x(i<", factor}, {"x(i>", factor}, {"x(i=", factor}, {"x(i=e", sum + "&|)"},
            {"x(i=0", sum + "&|)" + digits}, {"x(i=[0]", sum + "&|)"}, {"x(i=0&", factor + "!("},
            {"x(i=0|", factor + "!("}, {"x((i=a", sum + "&|)"}, {"x((i=a)", "&|)"}, {"x(!i=a", sum + "&|)"},
            {"x(!(i=a)", "&|)"}, {"x(i=0)", ";"}, {"v1(i=0)", ";"}, {"x(i=0);", "vx"}, {"v1(i=0);", "vx"},
        };
        for (String[] place : places) {
            for (char sign = 0; sign < 256; sign++) {
                int answer = d.fresh().law(place[0] + sign);
                int here = -1000 - place[0].length();
                boolean stands = place[1].indexOf(sign) >= 0;
                d.due("3: behind " + place[0] + " sign " + (int) sign, answer == here ? 1 : 0, stands ? 0 : 1);
            }
        }
        for (char sign = 0; sign < 256; sign++) {
            law("where the text begins", "" + sign, sign == 'v' || sign == 'x' ? -1001 : -1000);
        }
    }

    // PROBLEMS.

    private static void words() {
        for (String word : new String[] {"o", "off", "fo", "oof", "", "wish", "keep", "box", "least", "pf", "oe"}) {
            problem("1 a word that is none of these, another one where of is due", word + ":1", -1000);
        }
        for (String word : new String[] {"of", "w", "wis", "wishh", "wishes", "wwish", "leas", "leastx", "kee", "keeps",
            "bo", "boxx", "xbox", "wishleast", "", "fish", "wash", "wist", "beast", "leapt", "leash", "jeep", "keel", "fox",
            "bow", "bax"}) {
            problem("1 a word that is none of these, of where it is not the first", "of:1;" + word + ":x", -1005);
        }
        problem("1 where the word begins, in a later line", "of:1;wish:x;of:1", -1012);
        problem("LINES with a ; between two: one line", "of:1", 2);
        problem("LINES with a ; between two: none behind the last", "of:1;", -1005);
        problem("LINES with a ; between two: none ahead of the first", ";of:1", -1000);
        problem("LINES with a ; between two: no two", "of:1;;wish:x", -1005);
        problem("any of these in any order", "of:1;box:x<4;keep:x>2;least:x;wish:x", 2);
        problem("as many LINES as go in", "of:3;wish:x;wish:x;wish:x;keep:x<9;keep:x<9;keep:x<9;keep:x<9;box:x<9;"
                + "box:y<9;box:z<9", 8);
    }

    private static void quantities() {
        problem("a digit 1 to 3", "of:0", -1003);
        problem("a digit 1 to 3", "of:1", 2);
        problem("a digit 1 to 3", "of:2", 4);
        problem("a digit 1 to 3", "of:3", 8);
        problem("a digit 1 to 3", "of:4", -1003);
        problem("a digit", "of:11", -1004);
        problem("a digit", "of:01", -1003);
    }

    private static void numbersOfKeeps() {
        String[][] numbers = {{"0", "0"}, {"9", "9"}, {"10", "10"}, {"99", "99"}, {"00", "0"}, {"09", "9"}};
        for (String[] number : numbers) {
            d.fresh().problem("of:1;keep:x<" + number[0]);
            d.due("4: a number of one or two digits: < " + number[0], d.x().plane(0, 3), Integer.parseInt(number[1]));
            d.due("4: < is no more than", d.x().plane(0, 4), 0);
            d.fresh().problem("of:1;keep:x>" + number[0] + ";box:x<5");
            d.due("4: a number of one or two digits: > " + number[0], d.x().plane(0, 3), Integer.parseInt(number[1]));
            d.due("4: > is no less than", d.x().plane(0, 4), 1);
        }
        problem("2 a third digit, at it", "of:1;keep:x<100", -2014);
        problem("2 a third digit, at it", "of:1;keep:x>000", -2014);
        problem("2 a third digit, not the fourth", "of:1;keep:x<1000", -2014);
        problem("2 ahead of what stands behind it", "of:1;keep:x<100z", -2014);
        problem("1 a number has one digit or more", "of:1;keep:x<", -1012);
        problem("1 a number has one digit or more", "of:1;keep:x<;", -1012);
    }

    private static void numbersOfBoxes() {
        for (int box = 1; box <= 9; box++) {
            d.fresh().problem("of:1;box:x<" + box);
            d.due("4: BOX 1 to 9", d.x().problemIs(10), box);
            d.fresh().problem("of:1;box:x<0" + box);
            d.due("4: BOX of two digits", d.x().problemIs(10), box);
        }
        d.fresh().problem("of:3;box:y<1");
        d.due("4: 9 if nothing is told", d.x().problemIs(10), 9);
        d.due("4: 1 if 1 is told", d.x().problemIs(11), 1);
        d.due("4: 9 if nothing is told", d.x().problemIs(12), 9);
        problem("3 a box of 0, at its first digit", "of:1;box:x<0", -3011);
        problem("3 a box of 00, at its first digit", "of:1;box:x<00", -3011);
        problem("3 a box above 9, at its first digit", "of:1;box:x<10", -3011);
        problem("3 a box above 9, at its first digit", "of:1;box:x<99", -3011);
        problem("3 a box above 9, in a later line", "of:2;wish:x;box:y<10;box:x<2", -3018);
        problem("3 asked when it ends, by whatever stands there", "of:1;box:x<0;", -3011);
        problem("3 asked when it ends, by whatever stands there", "of:1;box:x<10!", -3011);
        problem("3 asked when it ends, by whatever stands there", "of:1;box:x<0x", -3011);
        problem("1 a good one, what stands there can't", "of:1;box:x<9x", -1012);
        problem("2 a third digit, at it: the box has not ended", "of:1;box:x<000", -2013);
        problem("2 a third digit, at it: the box has not ended", "of:1;box:x<009", -2013);
        problem("2 a third digit, at it: the box has not ended", "of:1;box:x<100", -2013);
    }

    private static void timesTaken() {
        String[][] sums = {
            {"3x", ""}, {"-3x", ""}, {"x+x+x", ""}, {"-x-x-x", ""}, {"2x+x", ""}, {"x-3x-x", ""}, {"3x-3x-3x", ""},
            {"3x+3y", ""}, {"-3x-3y", ""}, {"3x+3y-x", ""}, {"x-x", ""}, {"3x-x+x", ""},
            {"3x+x", "3"}, {"-3x-x", "4"}, {"x+x+x+x", "6"}, {"-x-x-x-x", "7"}, {"2x+2x", "4"}, {"2x+3x", "4"},
            {"3x+x-x", "3"}, {"-2x-3x+x", "5"}, {"3x+3y+y", "6"}, {"3y+3x-3y+x", "9"}, {"-3y+3x-y", "7"},
        };
        for (String word : new String[] {"wish", "least", "keep"}) {
            for (String[] sum : sums) {
                String text = "of:2;" + word + ":" + sum[0] + (word.equals("keep") ? "<99" : "");
                int from = 6 + word.length();
                problem("3 taken more than 3 times, or less than -3 times, so far", text,
                        sum[1].isEmpty() ? 4 : -3000 - from - Integer.parseInt(sum[1]));
            }
        }
        d.fresh().problem("of:3;wish:x+x+x-2y-y;least:3z-x+2x;keep:-3x+2y+y-z>0");
        int[] taken = {3, -3, 0, -1, 0, -3};
        for (int at = 0; at < 6; at++) {
            d.due("4: those of one QUANTITY are added up", d.x().wish(at / 3, at % 3), taken[at]);
        }
        d.due("4: those of one QUANTITY are added up", d.x().plane(0, 0), -3);
        d.due("4: those of one QUANTITY are added up", d.x().plane(0, 1), 3);
        d.due("4: those of one QUANTITY are added up", d.x().plane(0, 2), -1);
        problem("each SUM by itself", "of:1;wish:3x;wish:3x;least:3x;keep:3x<9;keep:3x<9", 2);
    }

    private static void fullOfWishesAndKeeps() {
        String wishes = "of:1;wish:x;least:x;wish:x";
        problem("WISHES: 3 at most", wishes, 2);
        problem("4 a fourth WISH, where its word begins", wishes + ";wish:x", -4027);
        problem("4 a fourth WISH, least too", wishes + ";least:x", -4027);
        problem("4 asked when it ends: by the end", wishes + ";wish", -4027);
        problem("4 ahead of what stands behind it", wishes + ";least!", -4027);
        problem("4 ahead of what stands behind it", wishes + ";wish:y", -4027);
        problem("1 a word that has not ended is none", wishes + ";wis", -1027);
        problem("1 a longer word is none", wishes + ";wishs:x", -1027);
        problem("a fourth WISH behind others", wishes + ";box:x<5;keep:x<4;least:x", -4044);
        problem("three WISHES leave room for KEEPS", wishes + ";keep:x<1;keep:x<1;keep:x<1;keep:x<1", 2);
        String keeps = "of:1;keep:x<9;keep:x>0;keep:x<9;keep:x<9";
        problem("4 KEEPS at most", keeps, 2);
        problem("4 a fifth KEEP, where its word begins", keeps + ";keep:x<9", -4041);
        problem("4 asked when it ends: by the end", keeps + ";keep", -4041);
        problem("4 ahead of what stands behind it", keeps + ";keep;", -4041);
        problem("4 ahead of what stands behind it", keeps + ";keep:y", -4041);
        problem("1 a word that has not ended is none", keeps + ";kee", -1041);
        problem("four KEEPS leave room for WISHES", keeps + ";wish:x;wish:x;wish:x", 2);
        problem("four KEEPS leave room for a box", keeps + ";box:x<2", 2);
    }

    private static void boxesTwice() {
        problem("box: once for each", "of:3;box:x<1;box:y<1;box:z<1", 8);
        problem("box: once for each, in any order", "of:3;box:z<1;box:x<1;box:y<1", 8);
        problem("6 a second box of a QUANTITY, at it", "of:3;box:x<1;box:x<1", -6017);
        problem("6 a second box, of the second", "of:3;box:y<1;box:x<1;box:y<1", -6025);
        problem("6 a second box, of the third", "of:3;box:z<1;wish:x;box:z<1", -6024);
        problem("6 ahead of what stands behind it", "of:3;box:x<1;box:x", -6017);
        problem("6 of a box of 9, too", "of:1;box:x<9;box:x<9", -6017);
        problem("6 ahead of 3", "of:1;box:x<9;box:x<0", -6017);
    }

    private static void quantitiesThatAreNot() {
        for (int n = 1; n <= 3; n++) {
            for (int q = 0; q < 3; q++) {
                char quantity = (char) ('x' + q);
                int corners = 1 << n;
                boolean is = q < n;
                String of = "of:" + n;
                problem("7 a QUANTITY that is not of these, at it", of + ";wish:" + quantity, is ? corners : -7010);
                problem("7 behind a digit", of + ";least:-2" + quantity, is ? corners : -7013);
                problem("7 of a later TERM", of + ";keep:x-" + quantity + "<9", is ? corners : -7012);
                problem("7 of a box", of + ";box:" + quantity + "<4", is ? corners : -7009);
            }
            problem("1 what is no QUANTITY at all", "of:" + n + ";wish:w", -1010);
            problem("1 what is no QUANTITY at all", "of:" + n + ";wish:{", -1010);
            problem("1 what is no QUANTITY at all", "of:" + n + ";box:w", -1009);
        }
        problem("3 behind 7: a QUANTITY that is not there is 7", "of:1;wish:3x+3y+y", -7014);
        problem("the first from the left: 3 ahead of a later 7", "of:1;wish:3x+x+y", -3013);
        problem("7 ahead of a second box", "of:1;box:y<1;box:y<1", -7009);
    }

    // LAWS.

    private static void digitsOfALaw() {
        law("a number of one to five digits", "v0(0=0)", 1);
        law("a number of one to five digits", "v99999(00000=99999)", 1);
        law("2 a sixth digit, at it", "v999999(0=0)", -2006);
        law("2 a sixth digit, at it", "v000000(0=0)", -2006);
        law("2 a sixth digit, not the seventh", "v1234567(0=0)", -2006);
        law("2 a sixth digit, in a C", "x(123456=0)", -2007);
        law("2 a sixth digit, on the right", "x(0=123456)", -2009);
        law("2 a sixth digit, in [ ]", "x([123456]=0)", -2008);
        law("2 a sixth digit, behind a good number", "v12345+123456(0=0)", -2012);
        law("2 a sixth digit at the end", "v123456", -2006);
        law("1 ahead of it", "v12345", -1006);
    }

    private static void seventeenRules() {
        String fifteen = "x(1=1)" + times(";v1(i=0)", 14);
        String sixteen = fifteen + ";v2(2=2)";
        int end = sixteen.length() + 1;
        law("RULES: 16 at most", fifteen, 15);
        law("RULES: 16 at most", sixteen, 16);
        d.due("3: how many RULES", d.x().count(0), 16);
        law("4 a 17th RULE, at its letter", sixteen + ";v3(3=3)", -4000 - end);
        law("4 a 17th RULE, at its letter", sixteen + ";x(3=3)", -4000 - end);
        law("4 at its letter, ahead of what stands behind it", sixteen + ";v", -4000 - end);
        law("4 at its letter, ahead of what stands behind it", sixteen + ";x!", -4000 - end);
        law("4 if that can stand there", sixteen + ";y(3=3)", -1000 - end);
        law("4 if that can stand there: the end", sixteen + ";", -1000 - end);
        law("4 if that can stand there: ;", sixteen + ";;", -1000 - end);
        law("a 16th RULE has its own faults", fifteen + ";v2", -1000 - fifteen.length() - 3);
        law("RULES with a ; between two: none behind the last", "x(1=1);", -1007);
        law("RULES with a ; between two: none ahead of the first", ";x(1=1)", -1000);
    }

    private static void sixOpen() {
        law("5: six ( are open, that of the RULE counts", "x((((((i=0))))))", 1);
        law("5 a seventh (, at it", "x(((((((i=0)))))))", -5007);
        law("5: six [ are open in the E of a RULE, that stands ahead of its (", "v[[[[[[i]]]]]](i=0)", 1);
        law("5 a seventh [, at it", "v[[[[[[[i]]]]]]](i=0)", -5007);
        law("5: [ that are closed are not open", "v[[[[[[i]]]]]]+[[[[[[i]]]]]]([[[[[i]]]]]=[[[[[0]]]]])", 1);
        law("5: five [ in a C", "x([[[[[i]]]]]=0)", 1);
        law("5 a sixth [ in a C", "x([[[[[[i]]]]]]=0)", -5007);
        law("5 a sixth [ on the right", "x(i=[[[[[[0]]]]]])", -5009);
        law("5: five ! in a C", "x(!!!!!i=0)", 1);
        law("5 a sixth ! in a C", "x(!!!!!!i=0)", -5007);
        law("5: a ! is open till its TEST ends: on the left", "x(!!!!![i]=0)", -5007);
        law("5: a ! is open till its TEST ends: on the right", "x(!!!!!i=[0])", -5009);
        law("5: one less is good", "x(!!!![i]=[0])", 1);
        law("5: a ! is closed behind its TEST", "x(!!!!!i=0&!!!!!i=0|!!!!!i=0)", 1);
        law("5: a ! ahead of ( is open till ) stands there", "x(!!!!(i=0&!i=0))", -5011);
        law("5: a ! ahead of ( is open till ) stands there", "x(!!!!(i=0)&!!!!!i=0)", 1);
        law("5: ( [ ! in one another", "x(!(!(![i]=0)))", -5007);
        law("5: ( [ ! in one another", "x(!(!(!i=0)))", 1);
        law("5: a ( within is closed", "x((((((i=0)))))&(((((i=0))))))", 1);
        law("5: each RULE by itself", "x((((((i=0))))));x((((((i=0))))))", 2);
        law("5 in a later RULE", "x((((((i=0))))));x(((((((i=0)))))))", -5024);
        law("5 ahead of what stands behind it", "x(((((((", -5007);
        law("1 the end ahead of a seventh", "x((((((", -1007);
        law("5 where it can stand; else 1", "v[[[[[[(", -1007);
        law("5 where it can stand; else 1", "x((((((i=0]", -1010);
    }
}
