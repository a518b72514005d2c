import java.util.ArrayDeque;
import java.util.Random;

/** Random texts, most of them with faults, beside two machines that read a byte at a time with a stack. */
public final class TextTests {
    private static final int TEXTS = Integer.getInteger("texts", 40000);
    private static final Desk d = new Desk("TextTests");

    public static void main(String[] args) {
        Random r = new Random(4100 + Integer.getInteger("seeds", 0));
        for (int t = 0; t < TEXTS; t++) {
            String problem = changed(r, problem(r), "ofwishleastkeepbox:;<>+-0123456789xyzxyz AZ\u00ff", 200);
            int fault = new ProblemMachine().read(problem);
            int got = d.fresh().problem(problem);
            d.due("problem " + problem, fault < 0 ? got : Math.min(got, 0), fault);
            String law = changed(r, law(r), "vx;()[]!&|<>=+-*/%0123456789iabctnedz:\u0000", 240);
            int rules = new LawMachine().read(law);
            d.due("law " + law, d.law(law), rules);
            d.due("count(0) behind law " + law, d.x().count(0), Math.max(0, rules));
        }
        d.end();
    }

    private static String changed(Random r, String text, String signs, int most) {
        StringBuilder changed = new StringBuilder(text);
        for (int changes = r.nextInt(3); changes > 0; changes--) {
            int at = r.nextInt(changed.length());
            char sign = signs.charAt(r.nextInt(signs.length()));
            switch (r.nextInt(5)) {
                case 0:
                    changed.insert(at, sign);
                    break;
                case 1:
                    changed.setCharAt(at, sign);
                    break;
                case 2:
                    if (changed.length() > 1) {
                        changed.deleteCharAt(at);
                    }
                    break;
                case 3:
                    changed.setLength(at + 1);
                    break;
                default:
                    changed.insert(at, changed.substring(at, Math.min(changed.length(), at + 1 + r.nextInt(6))));
                    break;
            }
        }
        changed.setLength(Math.min(most, changed.length()));
        return changed.toString();
    }

    private static String problem(Random r) {
        StringBuilder text = new StringBuilder("of:").append(1 + r.nextInt(3));
        for (int lines = r.nextInt(9); lines > 0; lines--) {
            char quantity = "xxyyz".charAt(r.nextInt(5));
            switch (r.nextInt(4)) {
                case 0:
                    text.append(";wish:").append(sum(r));
                    break;
                case 1:
                    text.append(";least:").append(sum(r));
                    break;
                case 2:
                    text.append(";keep:").append(sum(r)).append(r.nextBoolean() ? "<" : ">").append(number(r));
                    break;
                default:
                    text.append(";box:").append(quantity).append('<').append(r.nextInt(6) == 0 ? number(r)
                            : 1 + r.nextInt(9));
                    break;
            }
        }
        return text.toString();
    }

    private static String number(Random r) {
        int digits = 1 + r.nextInt(9) * 3 / 12;
        StringBuilder text = new StringBuilder();
        for (int i = 0; i < digits; i++) {
            text.append((char) ('0' + r.nextInt(10)));
        }
        return text.toString();
    }

    private static String sum(Random r) {
        StringBuilder text = new StringBuilder(r.nextInt(3) == 0 ? "-" : "");
        for (int terms = 1 + r.nextInt(3); terms > 0; terms--) {
            text.append(r.nextInt(4) == 0 ? String.valueOf(2 + r.nextInt(2)) : "");
            text.append("xxxxyyz".charAt(r.nextInt(7)));
            text.append(terms == 1 ? "" : r.nextBoolean() ? "+" : "-");
        }
        return text.toString();
    }

    private static String law(Random r) {
        StringBuilder text = new StringBuilder();
        int rules = r.nextInt(12) == 0 ? 15 + r.nextInt(4) : 1 + r.nextInt(3);
        for (int k = 0; k < rules; k++) {
            int depth = rules > 10 ? 0 : 1 + r.nextInt(4);
            text.append(k > 0 ? ";" : "").append(r.nextBoolean() ? "x" : "v" + LawTree.sum(r, depth).text());
            text.append('(').append(LawTree.condition(r, depth).text()).append(')');
        }
        if (r.nextInt(4) == 0) {
            int at = text.indexOf("(") + 1;
            text.insert(at, "(!!(!(!!".substring(0, r.nextInt(9)));
        }
        if (r.nextInt(4) == 0 && text.charAt(0) == 'v') {
            text.insert(1, "[[[[[[[[".substring(0, r.nextInt(9)));
        }
        return text.toString();
    }

    private static boolean isDigit(int sign) {
        return sign >= '0' && sign <= '9';
    }

    /** The fault of a text, or 0. */
    private static final class ProblemMachine {
        private enum At { WORD, COUNT, SUM, TIMES, TERM_END, KEEP_NUMBER, KEEP_DIGIT, BOX, BOX_SIGN, BOX_NUMBER,
            BOX_DIGIT, LINE_END }

        private At at = At.WORD;
        private String word = "";
        private int lines = 0;
        private int wordAt = 0;
        private int wishes = 0;
        private int keeps = 0;
        private int count = 1;
        private int number;
        private int numberAt;
        private int digits;
        private int sign;
        private boolean isLed;
        private int times;
        private int boxed;
        private int[] taken = new int[3];

        int read(String text) {
            for (int i = 0; i <= text.length(); i++) {
                int fault = step(i < text.length() ? text.charAt(i) & 255 : -1, i);
                if (fault != 0) {
                    return fault;
                }
            }
            return 0;
        }

        private int fault(int kind, int place) {
            return -1000 * kind - place;
        }

        private int step(int c, int i) {
            switch (at) {
                case WORD:
                    return inWord(c, i);
                case COUNT:
                    count = c - '0';
                    at = At.LINE_END;
                    return c >= '1' && c <= '3' ? 0 : fault(1, i);
                case SUM:
                    if (c == '-' && !isLed) {
                        sign = -1;
                        isLed = true;
                        return 0;
                    }
                    isLed = true;
                    if (c == '2' || c == '3') {
                        times = c - '0';
                        at = At.TIMES;
                        return 0;
                    }
                    return term(c, i);
                case TIMES:
                    return term(c, i);
                case TERM_END:
                    return behindTerm(c, i);
                case KEEP_NUMBER:
                case BOX_NUMBER:
                    numberAt = i;
                    number = c - '0';
                    digits = 1;
                    at = at == At.KEEP_NUMBER ? At.KEEP_DIGIT : At.BOX_DIGIT;
                    return isDigit(c) ? 0 : fault(1, i);
                case KEEP_DIGIT:
                case BOX_DIGIT:
                    return inNumber(c, i);
                case BOX:
                    return quantityOfBox(c, i);
                case BOX_SIGN:
                    at = At.BOX_NUMBER;
                    return c == '<' ? 0 : fault(1, i);
                default:
                    return lineEnd(c, i);
            }
        }

        private int inWord(int c, int i) {
            if (c >= 'a' && c <= 'z') {
                word += (char) c;
                return 0;
            }
            if (!"of,wish,least,keep,box".matches("(.*,)?" + word + "(,.*)?") || word.isEmpty()
                    || word.equals("of") != (lines == 0)) {
                return fault(1, wordAt);
            }
            if (word.equals("wish") || word.equals("least")) {
                wishes++;
            }
            if (word.equals("keep")) {
                keeps++;
            }
            if (wishes > 3 || keeps > 4) {
                return fault(4, wordAt);
            }
            at = word.equals("of") ? At.COUNT : word.equals("box") ? At.BOX : At.SUM;
            sign = 1;
            isLed = false;
            times = 1;
            taken = new int[3];
            return c == ':' ? 0 : fault(1, i);
        }

        private int term(int c, int i) {
            if (c < 'x' || c > 'z') {
                return fault(1, i);
            }
            if (c - 'x' >= count) {
                return fault(7, i);
            }
            taken[c - 'x'] += sign * times;
            at = At.TERM_END;
            return taken[c - 'x'] > 3 || taken[c - 'x'] < -3 ? fault(3, i) : 0;
        }

        private int behindTerm(int c, int i) {
            if (c == '+' || c == '-') {
                sign = c == '+' ? 1 : -1;
                times = 1;
                at = At.SUM;
                return 0;
            }
            if (!word.equals("keep")) {
                return lineEnd(c, i);
            }
            at = At.KEEP_NUMBER;
            return c == '<' || c == '>' ? 0 : fault(1, i);
        }

        private int inNumber(int c, int i) {
            if (isDigit(c) && digits == 1) {
                digits = 2;
                number = 10 * number + c - '0';
                return 0;
            }
            if (isDigit(c)) {
                return fault(2, i);
            }
            return at == At.BOX_DIGIT && (number < 1 || number > 9) ? fault(3, numberAt) : lineEnd(c, i);
        }

        private int quantityOfBox(int c, int i) {
            if (c < 'x' || c > 'z') {
                return fault(1, i);
            }
            if (c - 'x' >= count) {
                return fault(7, i);
            }
            at = At.BOX_SIGN;
            boolean again = (boxed >> (c - 'x') & 1) == 1;
            boxed |= 1 << (c - 'x');
            return again ? fault(6, i) : 0;
        }

        private int lineEnd(int c, int i) {
            lines++;
            word = "";
            wordAt = i + 1;
            at = At.WORD;
            return c == ';' || c < 0 ? 0 : fault(1, i);
        }
    }

    /** How many rules a text has, or its fault. */
    private static final class LawMachine {
        private enum At { RULE, OPEN, TEST, FACTOR, FACTOR_END, TEST_END, RULE_END }

        private At at = At.RULE;
        private int rules = 0;
        private int digits = 0;
        /** What is open: E of a rule, B [, C (, N !, L and R the left and the right side of a test. */
        private final ArrayDeque<Character> open = new ArrayDeque<>();

        int read(String text) {
            for (int i = 0; i <= text.length(); i++) {
                int c = i < text.length() ? text.charAt(i) & 255 : -1;
                if (c < 0 && at == At.RULE_END) {
                    return rules;
                }
                int fault = step(c, i);
                if (fault != 0) {
                    return fault;
                }
            }
            return 0;
        }

        private int push(char frame, int i) {
            long counted = open.stream().filter(f -> "BCN".indexOf(f) >= 0).count();
            open.push(frame);
            return counted >= 6 ? -5000 - i : 0;
        }

        private int step(int c, int i) {
            switch (at) {
                case RULE:
                    if (c != 'v' && c != 'x') {
                        return -1000 - i;
                    }
                    rules++;
                    at = c == 'v' ? At.FACTOR : At.OPEN;
                    if (c == 'v') {
                        open.push('E');
                    }
                    return rules > 16 ? -4000 - i : 0;
                case OPEN:
                    at = At.TEST;
                    return c == '(' ? push('C', i) : -1000 - i;
                case TEST:
                    if (c == '!') {
                        return push('N', i);
                    }
                    if (c == '(') {
                        return push('C', i);
                    }
                    open.push('L');
                    return factor(c, i);
                case FACTOR:
                    return factor(c, i);
                case FACTOR_END:
                    return behindFactor(c, i);
                case TEST_END:
                    return behindTest(c, i);
                default:
                    at = At.RULE;
                    return c == ';' ? 0 : -1000 - i;
            }
        }

        private int factor(int c, int i) {
            if (c == '[') {
                at = At.FACTOR;
                return push('B', i);
            }
            at = At.FACTOR_END;
            digits = isDigit(c) ? 1 : 0;
            return isDigit(c) || c > 0 && "iabctne".indexOf(c) >= 0 ? 0 : -1000 - i;
        }

        private int behindFactor(int c, int i) {
            if (digits > 0 && isDigit(c)) {
                digits++;
                return digits > 5 ? -2000 - i : 0;
            }
            if (c > 0 && "+-*/%".indexOf(c) >= 0) {
                at = At.FACTOR;
                return 0;
            }
            char frame = open.pop();
            if (frame == 'E') {
                at = At.TEST;
                return c == '(' ? push('C', i) : -1000 - i;
            }
            if (frame == 'B') {
                digits = 0;
                return c == ']' ? 0 : -1000 - i;
            }
            if (frame == 'L') {
                open.push('R');
                at = At.FACTOR;
                return c == '<' || c == '>' || c == '=' ? 0 : -1000 - i;
            }
            testEnds();
            return behindTest(c, i);
        }

        private void testEnds() {
            while (!open.isEmpty() && open.peek() == 'N') {
                open.pop();
            }
            at = At.TEST_END;
        }

        private int behindTest(int c, int i) {
            if (c == '&' || c == '|') {
                at = At.TEST;
                return 0;
            }
            if (c != ')') {
                return -1000 - i;
            }
            open.pop();
            if (open.isEmpty()) {
                at = At.RULE_END;
            } else {
                testEnds();
            }
            return 0;
        }
    }
}
