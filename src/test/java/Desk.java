/** Feeds texts to an object and counts the answers that are not as due. */
final class Desk {
    private final String name;
    private int wrong = 0;
    private int asked = 0;
    SeveralWishes x = new SeveralWishes();

    Desk(String name) {
        this.name = name;
    }

    /** A new object. */
    Desk fresh() {
        x = new SeveralWishes();
        return this;
    }

    void feed(String text) {
        for (int from = 0; from < text.length(); from += 20) {
            int[] fours = new int[5];
            for (int i = 0; i < 20; i++) {
                int sign = from + i < text.length() ? text.charAt(from + i) & 255 : 'a';
                fours[i / 4] = fours[i / 4] << 8 | sign;
            }
            x.feed(fours[0], fours[1], fours[2], fours[3], fours[4]);
        }
    }

    int problem(String text) {
        feed(text);
        return x.problem(text.length());
    }

    int law(String text) {
        feed(text);
        return x.law(text.length());
    }

    int check(int... bytes) {
        StringBuilder text = new StringBuilder();
        for (int sign : bytes) {
            text.append((char) sign);
        }
        feed(text.toString());
        return x.check(bytes.length);
    }

    String spelt(int i) {
        StringBuilder text = new StringBuilder();
        for (int at = 0; at < 100 && x.spelt(i, at) >= 0; at++) {
            text.append((char) x.spelt(i, at));
        }
        return text.toString();
    }

    void due(String call, long got, long want) {
        asked++;
        if (got != want) {
            wrong++;
            if (wrong <= 40) {
                System.out.println(name + ": " + call + " answered " + got + ", due is " + want);
            }
        }
    }

    /** A fraction that is told by two calls. */
    void due(String call, long up, long low, long wantUp, long wantLow) {
        due(call + ", upper", up, wantUp);
        due(call + ", lower", low, wantLow);
    }

    void due(String call, String got, String want) {
        due(call + " \"" + got + "\" for \"" + want + "\"", got.equals(want) ? 1 : 0, 1);
    }

    void end() {
        System.out.println(name + ": " + asked + " answers, " + wrong + " not as due");
        if (wrong != 0 || asked == 0) {
            System.exit(1);
        }
    }
}
