import java.util.Random;

/** Drawn runs of calls, each answer held against the model's; the draws are the same each time. */
public final class ModelTests {
    private static final int RUNS = 400, CALLS = 512, MOST_WRONG = 20;
    private static final int[] WILD = {-1, -2, Integer.MIN_VALUE, Integer.MAX_VALUE, 31, 64};
    private static final Check check = new Check();

    public static void main(String[] args) {
        for (int run = 0; run < RUNS && check.wrong() < MOST_WRONG; run++) {
            new ModelTests(run).go();
        }
        check.end("ModelTests");
    }

    private final int run;
    private final Random random;
    private final GoingDark x = new GoingDark();
    private final Model m = new Model();
    private int calls = 0;

    private ModelTests(int run) {
        this.run = run;
        this.random = new Random(977L * run + 5);
    }

    private void go() {
        while (calls < CALLS && check.wrong() < MOST_WRONG) {
            int which = random.nextInt(1000);
            if (calls == 0 ? which < 900 : which < 12) {
                writeStrait();
            } else if (which < 600) {
                stir(which % 8);
            } else {
                look(which % 16);
            }
        }
    }

    private void due(String call, long got, long want) {
        calls++;
        check.due("run " + run + ", call " + calls + ": " + call, got, want);
    }

    /** Mostly within the bound, now and then one outside. */
    private int upTo(int bound) {
        int which = random.nextInt(60);
        if (which == 0) {
            return WILD[random.nextInt(WILD.length)];
        }
        return which == 1 ? bound : random.nextInt(bound);
    }

    private boolean coin() {
        return random.nextBoolean();
    }

    private void writeStrait() {
        StringBuilder text = new StringBuilder();
        int lights = 2 + random.nextInt(4);
        for (int i = 0; i < lights; i++) {
            text.append(i == 0 ? "" : ",").append("lfsio".charAt(random.nextInt(5))).append(random.nextInt(10));
        }
        text.append(';').append(random.nextInt(random.nextInt(3) == 0 ? 10 : 4)).append(1 + random.nextInt(9));
        if (random.nextInt(5) == 0) {
            text.setCharAt(random.nextInt(text.length()), "lf0159,;x".charAt(random.nextInt(9)));
        }
        if (random.nextInt(10) == 0) {
            text.append("1");
        }
        if (random.nextInt(4) != 0) {
            due("blank()", x.blank(), m.blank());
        }
        for (int i = 0; i < text.length(); i++) {
            due("letter", x.letter(text.charAt(i)), m.letter(text.charAt(i)));
            if (random.nextInt(20) == 0) {
                due("strait() too early", x.strait(), m.strait());
            }
        }
        due("fault() of " + text, x.fault(), m.fault());
        due("strait() of " + text, x.strait(), m.strait());
    }

    private void stir(int which) {
        int a = upTo(5);
        int b = upTo(4);
        boolean c = coin();
        boolean d = coin();
        switch (which) {
            case 0 -> due("fact " + b + c, x.fact(b, c), m.fact(b, c));
            case 1 -> {
                int place = upTo(10);
                int course = upTo(3) - 1;
                due("ship " + place + " " + course, x.ship(place, course), m.ship(place, course));
            }
            case 2, 3 -> due("ask " + a + " " + b + c, x.ask(a, b, c), m.ask(a, b, c));
            case 4 -> due("breath()", x.breath(), m.breath());
            case 5 -> {
                int breath = upTo(100);
                due("hear " + a + " " + b + c + breath + d, x.hear(a, b, c, breath, d), m.hear(a, b, c, breath, d));
            }
            case 6 -> {
                if (random.nextInt(6) == 0) {
                    due("forget()", x.forget(), m.forget());
                } else {
                    due("image()", x.image(), m.image());
                }
            }
            default -> {
                if (random.nextInt(3) == 0) {
                    due("restore()", x.restore(), m.restore());
                } else {
                    int code = upTo(127);
                    due("letter " + code, x.letter(code), m.letter(code));
                }
            }
        }
    }

    private void look(int which) {
        int a = upTo(5);
        int b = upTo(7);
        int c = upTo(random.nextBoolean() ? 3 : 4);
        int seed = random.nextInt(30) == 0 ? upTo(9) : random.nextInt() & Integer.MAX_VALUE;
        int breaths = upTo(40) + 1;
        switch (which) {
            case 0, 1 -> due("about " + a + " " + b, x.about(a, b), m.about(a, b));
            case 2 -> due("as " + a + " " + b, x.as(a, b), m.as(a, b));
            case 3 -> due("shipOf " + c + " " + b, x.shipOf(c, b), m.shipOf(c, b));
            case 4 -> due("atOnce " + c, x.atOnce(c), m.atOnce(c));
            case 5 -> due("worlds " + c, x.worlds(c), m.worlds(c));
            case 6 -> due("next()", x.next(), m.next());
            case 7 -> due("kinds " + a, x.kinds(a), m.kinds(a));
            case 8, 9, 10 -> due("nights", x.nights(breaths, seed, c), m.nights(breaths, seed, c));
            case 11 -> due("count " + b, x.count(b), m.count(b));
            case 12 -> due("count", x.count(b + 5), m.count(b + 5));
            case 13 -> due("fault()", x.fault(), m.fault());
            default -> due("digest()", x.digest(), m.digest());
        }
    }
}
