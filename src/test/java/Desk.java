/** Feeds texts to an object, counts its calls and the answers that are not as due. */
final class Desk {
    /** What an object answers behind so many calls is free: no test may ask for it. */
    private static final int CALLS = 512;
    /** Calls enough for a text and what is asked behind it. */
    private static final int ROOM = 40;

    private final String name;
    private final boolean isRenewed;
    private int wrong = 0;
    private int asked = 0;
    private SeveralWishes object = new SeveralWishes();
    private int calls = 0;
    private String problem = "";
    private String law = "";

    Desk(String name) {
        this(name, false);
    }

    /** If it is renewed, a new object with the like PROBLEM and LAW goes on when one has had its calls. */
    Desk(String name, boolean isRenewed) {
        this.name = name;
        this.isRenewed = isRenewed;
    }

    /** A new object. */
    Desk fresh() {
        object = new SeveralWishes();
        calls = 0;
        problem = "";
        law = "";
        return this;
    }

    /** The object, for one call. */
    SeveralWishes x() {
        renew();
        return call();
    }

    /** How many calls the object has had. */
    int calls() {
        return calls;
    }

    private SeveralWishes call() {
        calls++;
        if (calls == CALLS + 1) {
            due("this test's calls of one object", calls, CALLS);
        }
        return object;
    }

    private void renew() {
        if (!isRenewed || calls < CALLS - ROOM) {
            return;
        }
        String toldProblem = problem;
        String toldLaw = law;
        fresh();
        if (!toldProblem.isEmpty()) {
            problem(toldProblem);
        }
        if (!toldLaw.isEmpty()) {
            law(toldLaw);
        }
    }

    void feed(String text) {
        for (int from = 0; from < text.length(); from += 20) {
            int[] fours = new int[5];
            for (int i = 0; i < 20; i++) {
                int sign = from + i < text.length() ? text.charAt(from + i) & 255 : 'a';
                fours[i / 4] = fours[i / 4] << 8 | sign;
            }
            call().feed(fours[0], fours[1], fours[2], fours[3], fours[4]);
        }
    }

    int problem(String text) {
        renew();
        feed(text);
        int answer = call().problem(text.length());
        problem = answer >= 0 ? text : problem;
        return answer;
    }

    int law(String text) {
        renew();
        feed(text);
        int answer = call().law(text.length());
        law = answer >= 0 ? text : law;
        return answer;
    }

    int check(int... bytes) {
        StringBuilder text = new StringBuilder();
        for (int sign : bytes) {
            text.append((char) sign);
        }
        feed(text.toString());
        return call().check(bytes.length);
    }

    String spelt(int i) {
        StringBuilder text = new StringBuilder();
        int sign = x().spelt(i, 0);
        while (sign >= 0 && text.length() < 100) {
            text.append((char) sign);
            sign = x().spelt(i, text.length());
        }
        return text.toString();
    }

    void due(String call, long got, long want) {
        asked++;
        if (got != want) {
            wrong++;
            if (wrong <= 40) {
                System.out.println(name + ": " + call + " answered " + got + ", due is " + want);
            }
        }
    }

    /** A fraction that is told by two calls. */
    void due(String call, long up, long low, long wantUp, long wantLow) {
        due(call + ", upper", up, wantUp);
        due(call + ", lower", low, wantLow);
    }

    void due(String call, String got, String want) {
        due(call + " \"" + got + "\" for \"" + want + "\"", got.equals(want) ? 1 : 0, 1);
    }

    void end() {
        System.out.println(name + ": " + asked + " answers, " + wrong + " not as due");
        if (wrong != 0 || asked == 0) {
            System.exit(1);
        }
    }
}
