import java.util.Random;

/** A random law as a tree, which is both written as a text and reckoned. */
final class LawTree {
    static final class Divided extends Exception {
        private static final long serialVersionUID = 1L;
    }

    private final char kind;
    private final int number;
    private final LawTree[] parts;

    private LawTree(char kind, int number, LawTree... parts) {
        this.kind = kind;
        this.number = number;
        this.parts = parts;
    }

    static LawTree sum(Random r, int depth) {
        int which = r.nextInt(depth > 0 ? 9 : 3);
        switch (which) {
            case 0:
                return new LawTree('0', r.nextInt(3) == 0 ? r.nextInt(100000) : r.nextInt(12));
            case 1:
            case 2:
                return new LawTree('L', "iabctne".charAt(r.nextInt(7)));
            case 8:
                return new LawTree('[', 0, sum(r, depth - 1));
            default:
                return new LawTree("+-*/%".charAt(which - 3), 0, sum(r, depth - 1), sum(r, depth - 1));
        }
    }

    static LawTree condition(Random r, int depth) {
        int which = r.nextInt(depth > 0 ? 7 : 3);
        switch (which) {
            case 3:
                return new LawTree('!', 0, condition(r, depth - 1));
            case 4:
                return new LawTree('(', 0, condition(r, depth - 1));
            case 5:
                return new LawTree('&', 0, condition(r, depth - 1), condition(r, depth - 1));
            case 6:
                return new LawTree('|', 0, condition(r, depth - 1), condition(r, depth - 1));
            default:
                return new LawTree("<>=".charAt(which), 0, sum(r, depth / 2), sum(r, depth / 2));
        }
    }

    /** How tightly a part binds: what binds less tightly than its place asks stands in brackets. */
    private int bond() {
        switch (kind) {
            case '|':
                return 0;
            case '&':
                return 1;
            case '+':
            case '-':
                return 0;
            case '*':
            case '/':
            case '%':
                return 1;
            default:
                return 2;
        }
    }

    private boolean isCondition() {
        return "|&!(<>=".indexOf(kind) >= 0;
    }

    private String bound(int bond) {
        if (bond() >= bond) {
            return text();
        }
        return isCondition() ? "(" + text() + ")" : "[" + text() + "]";
    }

    String text() {
        switch (kind) {
            case '0':
                return String.valueOf(number);
            case 'L':
                return String.valueOf((char) number);
            case '[':
                return "[" + parts[0].text() + "]";
            case '(':
                return "(" + parts[0].text() + ")";
            case '!':
                return "!" + parts[0].bound(2);
            case '<':
            case '>':
            case '=':
                return parts[0].text() + kind + parts[1].text();
            default:
                // From the left on: the left part may bind as tightly as this one, the right part must more.
                return parts[0].bound(bond()) + kind + parts[1].bound(bond() + 1);
        }
    }

    int value(int[] letters) throws Divided {
        if (kind == '0') {
            return number;
        }
        if (kind == 'L') {
            return letters["iabctne".indexOf(number)];
        }
        int left = parts[0].value(letters);
        if (kind == '[') {
            return left;
        }
        int right = parts[1].value(letters);
        if (kind == '+') {
            return left + right;
        }
        if (kind == '-') {
            return left - right;
        }
        if (kind == '*') {
            return left * right;
        }
        if (right == 0) {
            throw new Divided();
        }
        long whole = kind == '/' ? (long) left / right : (long) left % right;
        return (int) whole;
    }

    boolean holds(int[] letters) throws Divided {
        switch (kind) {
            case '!':
                return !parts[0].holds(letters);
            case '(':
                return parts[0].holds(letters);
            case '&':
                return parts[0].holds(letters) && parts[1].holds(letters);
            case '|':
                return parts[0].holds(letters) || parts[1].holds(letters);
            case '<':
                return parts[0].value(letters) < parts[1].value(letters);
            case '>':
                return parts[0].value(letters) > parts[1].value(letters);
            default:
                return parts[0].value(letters) == parts[1].value(letters);
        }
    }
}
