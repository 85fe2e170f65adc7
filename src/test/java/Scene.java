/** States of an object from which a refused call is looked at; each is made anew by the same calls. */
enum Scene {
    /** Nothing was called. */
    NEW,
    /** No strait, and a page that lacks a letter to be one. */
    WRITTEN,
    /** No strait, and a page with no room. */
    CROWDED,
    /** A strait of five was read, and nothing else. */
    FRESH,
    /** The second strait, with an image of an earlier breath, some of all things and a page begun. */
    BUSY,
    /** As many ships, letters and heard answers as there may be, with an image. */
    FILLED,
    /** Each light is dark, with an image from ahead of that. */
    DARKENED,
    /** What was heard can't be, with an image from ahead of that. */
    BEWILDERED;

    static final Scene[] WITHOUT_STRAIT = {NEW, WRITTEN, CROWDED};
    static final Scene[] WITH_STRAIT = {FRESH, BUSY, FILLED, DARKENED, BEWILDERED};
    static final Scene[] ALL = values();

    GoingDark make() {
        GoingDark x = new GoingDark();
        switch (this) {
            case WRITTEN -> EdgeSuite.write(x, "l5,f0;4");
            case CROWDED -> EdgeSuite.write(x, "l1,l2,l3,l4,l5;111");
            case FRESH -> read(x, "l1,f2,s3,i4,o9;13");
            case BUSY -> busy(x);
            case FILLED -> filled(x);
            case DARKENED -> darkened(x);
            case BEWILDERED -> bewildered(x);
            default -> { }
        }
        return x;
    }

    private static void read(GoingDark x, String text) {
        EdgeSuite.write(x, text);
        x.strait();
    }

    private static void busy(GoingDark x) {
        read(x, "l1,l2;11");
        read(x, "s1,i4,o6,l9,f4;23");
        x.fact(1, true);
        x.ship(4, 0);
        x.ask(1, 1, false);
        x.hear(1, 2, false, 1, true);
        x.breath();
        x.image();
        x.fact(1, false);
        x.fact(3, true);
        x.ship(7, 1);
        x.ask(3, 0, false);
        x.ask(4, 0, false);
        x.hear(0, 1, true, 2, false);
        x.hear(2, 0, false, 3, true);
        x.breath();
        EdgeSuite.write(x, "l3,f");
    }

    /** Of the three ships one is through, one is lost, one is at sea. */
    private static void filled(GoingDark x) {
        read(x, "l3,s3,o7;12");
        x.fact(2, true);
        x.ship(0, -1);
        x.ship(9, 0);
        x.image();
        x.ship(3, 0);
        x.ask(2, 2, false);
        x.breath();
        for (int n = 0; n < 8; n++) {
            x.hear(n % 3, n % 4, false, n, n != 5);
        }
        EdgeSuite.write(x, "l5,f0;43,l5,f0;43x");
    }

    private static void darkened(GoingDark x) {
        read(x, "l3,s9,i6;14");
        x.ship(3, 0);
        x.fact(0, true);
        x.hear(0, 0, false, 0, true);
        x.image();
        x.ask(0, 1, false);
        x.ask(1, 1, false);
        x.ask(2, 0, false);
    }

    private static void bewildered(GoingDark x) {
        read(x, "f2,l5,l5;31");
        x.ship(5, 1);
        x.hear(2, 0, false, 0, true);
        x.image();
        x.hear(1, 1, false, 0, true);
        x.hear(2, 1, true, 1, true);
        x.letter('i');
    }

    /** The image first: what looks at an object ahead of that might hide that it was touched. */
    static long[] goBack(GoingDark x) {
        return new long[] {x.restore(), x.digest(), x.breath(), x.digest(), x.restore(), x.digest()};
    }

    /** The answers of calls that together see all of an object, what its image keeps and its page too. */
    static long[] goOn(GoingDark x) {
        long[] told = new long[64];
        int n = 0;
        told[n++] = x.digest();
        told[n++] = x.fault();
        for (int what = 0; what < 3; what++) {
            told[n++] = x.nights(40, 7, what);
        }
        for (int light = 0; light < 5; light++) {
            told[n++] = x.ask(light, light % 4, light > 2);
        }
        told[n++] = x.digest();
        told[n++] = x.hear(0, 0, false, 4, true);
        told[n++] = x.breath();
        told[n++] = x.digest();
        told[n++] = x.restore();
        told[n++] = x.digest();
        told[n++] = x.ship(2, 1);
        for (int i = 0; i < 3; i++) {
            told[n++] = x.breath();
            told[n++] = x.digest();
        }
        told[n++] = x.letter('l');
        told[n++] = x.digest();
        told[n++] = x.blank();
        for (char c : "l5,f0;43".toCharArray()) {
            told[n++] = x.letter(c);
        }
        told[n++] = x.strait();
        told[n++] = x.digest();
        told[n++] = x.restore();
        return told;
    }
}
