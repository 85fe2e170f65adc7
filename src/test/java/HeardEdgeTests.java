import java.math.BigInteger;

/** Boundary cases of promises 14 to 19: what was heard, worlds, what to ask next, kinds, nights. */
public final class HeardEdgeTests extends EdgeSuite {
    private static final int[] SEEDS = {0, 1, 2, 12345, 65535, 65536, 1 << 30, MAX - 1, MAX};

    public static void main(String[] args) {
        HeardEdgeTests all = new HeardEdgeTests();
        all.hearRefused();
        all.hear();
        all.forget();
        all.worldsRefused();
        all.worldsByOne();
        all.worlds();
        all.nextRefused();
        all.next();
        all.kindsRefused();
        all.kinds();
        all.nightsRefused();
        all.nightsDraws();
        all.nightsQuestions();
        all.nightsLost();
        all.end(14, 19);
    }

    // ---- promise 14

    private void hearRefused() {
        edge(14, "UNKNOWN: LIGHT -1", () -> refused(UNKNOWN, x -> x.hear(-1, 0, false, 0, true), Scene.ALL));
        edge(14, "UNKNOWN: the number behind the last LIGHT", () -> {
            refused(UNKNOWN, x -> x.hear(5, 0, false, 0, true), Scene.FRESH, Scene.BUSY);
            refused(UNKNOWN, x -> x.hear(3, 0, false, 0, true), Scene.FILLED, Scene.DARKENED, Scene.BEWILDERED);
        });
        edge(14, "UNKNOWN: LIGHTS far away", () -> {
            refused(UNKNOWN, x -> x.hear(MAX, 0, false, 0, true), Scene.ALL);
            refused(UNKNOWN, x -> x.hear(MIN, 0, false, 0, true), Scene.ALL);
        });
        edge(14, "UNKNOWN: no STRAIT", () -> refused(UNKNOWN, x -> x.hear(0, 0, false, 0, true), Scene.WITHOUT_STRAIT));
        edge(14, "UNKNOWN: FACT -1", () -> refused(UNKNOWN, x -> x.hear(0, -1, false, 0, true), Scene.ALL));
        edge(14, "UNKNOWN: FACT 4", () -> refused(UNKNOWN, x -> x.hear(0, 4, false, 0, true), Scene.ALL));
        edge(14, "UNKNOWN: FACTS far away", () -> {
            refused(UNKNOWN, x -> x.hear(0, MAX, true, 0, false), Scene.ALL);
            refused(UNKNOWN, x -> x.hear(0, MIN, true, 0, false), Scene.ALL);
        });
        edge(14, "OUTSIDE: BREATH -1", () -> refused(OUTSIDE, x -> x.hear(0, 0, false, -1, true), Scene.WITH_STRAIT));
        edge(14, "OUTSIDE: BREATH 100", () -> refused(OUTSIDE, x -> x.hear(0, 0, false, 100, true), Scene.WITH_STRAIT));
        edge(14, "OUTSIDE: BREATHS far away", () -> {
            refused(OUTSIDE, x -> x.hear(0, 3, true, MAX, false), Scene.WITH_STRAIT);
            refused(OUTSIDE, x -> x.hear(0, 3, true, MIN, false), Scene.WITH_STRAIT);
        });
        edge(14, "FULL: the ninth", () -> {
            refused(FULL, x -> x.hear(0, 0, false, 0, true), Scene.FILLED);
            refused(FULL, x -> x.hear(2, 3, true, 99, false), Scene.FILLED);
        });
        edge(14, "UNKNOWN is told ahead of OUTSIDE", () -> {
            refused(UNKNOWN, x -> x.hear(-1, 0, false, 100, true), Scene.ALL);
            refused(UNKNOWN, x -> x.hear(0, 4, false, -1, true), Scene.ALL);
            refused(UNKNOWN, x -> x.hear(0, 0, false, 100, true), Scene.WITHOUT_STRAIT);
        });
        edge(14, "UNKNOWN is told ahead of FULL", () -> {
            refused(UNKNOWN, x -> x.hear(3, 0, false, 0, true), Scene.FILLED);
            refused(UNKNOWN, x -> x.hear(0, 4, false, 0, true), Scene.FILLED);
        });
        edge(14, "OUTSIDE is told ahead of FULL", () -> {
            refused(OUTSIDE, x -> x.hear(0, 0, false, -1, true), Scene.FILLED);
            refused(OUTSIDE, x -> x.hear(0, 0, false, 100, true), Scene.FILLED);
        });
    }

    private void hear() {
        edge(14, "BREATH 0 is the least", () -> due("hear", Scene.FRESH.make().hear(0, 0, false, 0, true), 1));
        edge(14, "BREATH 99 is the greatest", () -> due("hear", Scene.FRESH.make().hear(0, 0, false, 99, true), 1));
        edge(14, "the last LIGHT and the last FACT", () -> due("hear", Scene.FRESH.make().hear(4, 3, true, 9, false), 1));
        edge(14, "eight at most: how much was", () -> {
            GoingDark x = Scene.FRESH.make();
            for (int n = 1; n <= 8; n++) {
                due("hear", x.hear(n % 5, n % 4, false, n, true), n);
                due("HEARD", x.count(9), n);
            }
            due("one more", x.hear(0, 0, false, 0, true), FULL);
            due("HEARD", x.count(9), 8);
        });
        edge(14, "the eighth tells as the first does", () -> {
            GoingDark x = at("l5,f0;43");
            for (int n = 1; n <= 7; n++) {
                x.hear(1, 0, false, 0, true);
            }
            due("WORLDS by seven", x.worlds(0), 16);
            x.hear(0, 3, false, 0, true);
            due("WORLDS by eight", x.worlds(0), 8);
            due("so in all", x.worlds(2), 8);
        });
        edge(14, "the same twice is two", () -> {
            GoingDark x = Scene.FRESH.make();
            x.hear(0, 0, false, 0, true);
            due("hear", x.hear(0, 0, false, 0, true), 2);
            due("WORLDS", x.worlds(0), 8);
        });
        edge(14, "what can't be is HEARD as well", () -> due("hear", Scene.BEWILDERED.make().hear(0, 0, false, 0, false), 4));
        edge(14, "of a BREATH that has not been, of one that is dark", () -> {
            GoingDark x = Scene.DARKENED.make();
            due("hear", x.hear(0, 0, false, 99, true), 2);
        });
        edge(14, "nobody is ASKED by it, nothing is so by it", () -> {
            GoingDark x = at("l5,f0;43");
            x.hear(0, 0, false, 0, false);
            x.hear(0, 1, false, 0, true);
            due("ASKED", x.about(0, 5), 0);
            due("dark for", x.about(0, 2), 0);
            due("FACTS", x.count(4), 0);
        });
        edge(14, "no more FULL when it is forgotten", () -> {
            GoingDark x = Scene.FILLED.make();
            x.forget();
            due("hear", x.hear(0, 0, false, 0, true), 1);
        });
    }

    // ---- promise 15

    private void forget() {
        edge(15, "no STRAIT: nothing was", () -> refused(0, GoingDark::forget, Scene.WITHOUT_STRAIT));
        edge(15, "nothing was HEARD: 0", () -> refused(0, GoingDark::forget, Scene.FRESH));
        edge(15, "all eight", () -> {
            GoingDark x = Scene.FILLED.make();
            due("forget", x.forget(), 8);
            due("HEARD", x.count(9), 0);
            due("again", x.forget(), 0);
        });
        edge(15, "nothing any more: sixteen WORLDS, each KIND", () -> {
            GoingDark x = Scene.BEWILDERED.make();
            due("WORLDS", x.worlds(0), 0);
            due("forget", x.forget(), 3);
            due("WORLDS", x.worlds(0), 16);
            due("KINDS", x.kinds(1), 31);
        });
        edge(15, "what was forgotten does not come back with what is HEARD then", () -> {
            GoingDark x = at("l5,f0;43");
            x.hear(0, 0, false, 0, true);
            x.hear(0, 1, false, 0, true);
            x.forget();
            due("hear", x.hear(0, 2, true, 0, true), 1);
            due("WORLDS", x.worlds(0), 8);
            due("so in some", x.worlds(3), 11);
        });
        edge(15, "all else stays", () -> {
            GoingDark x = Scene.BUSY.make();
            int[] counts = {5, 2, 3, 3, 8, 2, 2, 0, 2, 0, 4, 2};
            due("forget", x.forget(), 3);
            for (int what = 0; what < counts.length; what++) {
                due("count(" + what + ")", x.count(what), counts[what]);
            }
            due("no", x.about(3, 6), 1);
            due("restore", x.restore(), 1);
            due("HEARD of the IMAGE", x.count(9), 1);
        });
    }

    // ---- promise 16

    private void worldsRefused() {
        edge(16, "OUTSIDE: what -1", () -> refused(OUTSIDE, x -> x.worlds(-1), Scene.ALL));
        edge(16, "OUTSIDE: what 4", () -> refused(OUTSIDE, x -> x.worlds(4), Scene.ALL));
        edge(16, "OUTSIDE: what far away", () -> {
            refused(OUTSIDE, x -> x.worlds(MAX), Scene.ALL);
            refused(OUTSIDE, x -> x.worlds(MIN), Scene.ALL);
        });
        for (int what = 0; what <= 3; what++) {
            int one = what;
            edge(16, "STATE: no STRAIT, what " + what, () -> refused(STATE, x -> x.worlds(one), Scene.WITHOUT_STRAIT));
            edge(16, "what " + what + " changes nothing", () -> changesNothing(x -> x.worlds(one), Scene.WITH_STRAIT));
        }
        edge(16, "OUTSIDE is told ahead of STATE", () -> {
            refused(OUTSIDE, x -> x.worlds(-1), Scene.WITHOUT_STRAIT);
            refused(OUTSIDE, x -> x.worlds(4), Scene.WITHOUT_STRAIT);
        });
    }

    private void worldsAre(String words, GoingDark x, int many, int least, int all, int some) {
        edge(16, words, () -> {
            due("how many", x.worlds(0), many);
            due("the least", x.worlds(1), least);
            due("so in all", x.worlds(2), all);
            due("so in some", x.worlds(3), some);
        });
    }

    private static GoingDark heard(int light, boolean turned, int breath, boolean yes) {
        GoingDark x = at("l1,f2,s3,i4,o9;12");
        x.hear(light, 2, turned, breath, yes);
        return x;
    }

    private void isSo(String words, GoingDark x) {
        worldsAre(words + ": it is so", x, 8, 4, 4, 15);
    }

    private void isNot(String words, GoingDark x) {
        worldsAre(words + ": it is not", x, 8, 0, 0, 11);
    }

    private void tellsNothing(String words, GoingDark x) {
        worldsAre(words + ": it tells nothing", x, 16, 0, 0, 15);
    }

    private void cannotBe(String words, GoingDark x) {
        worldsAre(words + ": it can't be", x, 0, NONE, NONE, NONE);
    }

    private void worldsByOne() {
        isSo("a LIGHT said yes", heard(0, false, 0, true));
        isNot("a LIGHT said no", heard(0, false, 0, false));
        isNot("a LIGHT said yes, TURNED", heard(0, true, 0, true));
        isSo("a LIGHT said no, TURNED", heard(0, true, 0, false));
        isSo("a LIGHT said yes on BREATH 99", heard(0, false, 99, true));
        tellsNothing("a FIRE said yes", heard(1, false, 0, true));
        tellsNothing("a FIRE said yes, TURNED", heard(1, true, 99, true));
        cannotBe("a FIRE said no", heard(1, false, 0, false));
        cannotBe("a FIRE said no, TURNED", heard(1, true, 99, false));
        tellsNothing("a SAINT said yes", heard(2, false, 0, true));
        tellsNothing("a SAINT said yes, TURNED", heard(2, true, 1, true));
        isNot("a SAINT said no, as of a LIGHT", heard(2, false, 0, false));
        isSo("a SAINT said no, TURNED", heard(2, true, 1, false));
        isNot("a LIAR said yes", heard(3, false, 0, true));
        isSo("a LIAR said no", heard(3, false, 1, false));
        isSo("a LIAR said yes, TURNED", heard(3, true, 0, true));
        isNot("a LIAR said no, TURNED", heard(3, true, 1, false));
        isNot("a FOOL said yes on BREATH 0", heard(4, false, 0, true));
        isSo("a FOOL said yes on BREATH 1", heard(4, false, 1, true));
        isSo("a FOOL said no on BREATH 98", heard(4, false, 98, false));
        isNot("a FOOL said no on BREATH 99", heard(4, false, 99, false));
        isSo("a FOOL said yes on BREATH 0, TURNED", heard(4, true, 0, true));
        isNot("a FOOL said yes on BREATH 99, TURNED", heard(4, true, 99, true));
    }

    /** A light was heard of all four facts: just one world is left. */
    private static GoingDark oneWorld(int world) {
        GoingDark x = at("l5,f0;43");
        for (int fact = 0; fact <= 3; fact++) {
            x.hear(0, fact, false, 0, ((world >> fact) & 1) == 1);
        }
        return x;
    }

    private void worlds() {
        worldsAre("nothing was HEARD: all sixteen", Scene.FRESH.make(), 16, 0, 0, 15);
        for (int world = 0; world <= 15; world++) {
            worldsAre("just one WORLD, " + world, oneWorld(world), 1, world, world, world);
        }
        worldsAre("there are none: NONE", Scene.BEWILDERED.make(), 0, NONE, NONE, NONE);
        edge(16, "two that gainsay each other leave none", () -> {
            GoingDark x = at("l5,i0;43");
            x.hear(0, 0, false, 0, true);
            due("one", x.worlds(0), 8);
            x.hear(1, 0, false, 0, true);
            due("both", x.worlds(0), 0);
        });
        edge(16, "a FOOL gainsays itself on even and odd BREATHS", () -> {
            GoingDark x = at("o5,f0;43");
            x.hear(0, 0, false, 0, true);
            x.hear(0, 0, false, 1, false);
            due("no, then", x.worlds(0), 8);
            x.hear(0, 0, false, 3, true);
            due("yes, then", x.worlds(0), 0);
        });
        edge(16, "FACTS as they are, and who is dark, are not in it", () -> {
            GoingDark x = at("l5,f0;43");
            x.fact(0, true);
            x.ask(0, 1, false);
            due("WORLDS", x.worlds(0), 16);
            x.hear(0, 0, false, 0, false);
            due("the least", x.worlds(1), 0);
            due("so in some", x.worlds(3), 14);
        });
        edge(16, "a SAINT's yes tells nothing, though it might have gone dark", () -> {
            GoingDark x = at("s5,f0;43");
            due("may", x.about(0, 3), 1);
            x.hear(0, 0, false, 0, true);
            due("WORLDS", x.worlds(0), 16);
        });
    }

    // ---- promise 17

    private void nextRefused() {
        edge(17, "STATE: no STRAIT", () -> refused(STATE, GoingDark::next, Scene.WITHOUT_STRAIT));
        edge(17, "it changes nothing", () -> changesNothing(GoingDark::next, Scene.WITH_STRAIT));
        edge(17, "NONE: there are no WORLDS", () -> refused(NONE, GoingDark::next, Scene.BEWILDERED));
        edge(17, "NONE: none is lit", () -> refused(NONE, GoingDark::next, Scene.DARKENED));
        edge(17, "NONE: neither WORLDS nor lit", () -> {
            GoingDark x = Scene.DARKENED.make();
            x.hear(0, 0, false, 0, false);
            due("WORLDS", x.worlds(0), 0);
            due("next", x.next(), NONE);
        });
    }

    private void nextIs(String words, GoingDark x, int want) {
        edge(17, words, () -> due("next", x.next(), want));
    }

    /** Of the first facts it is known that they are so, or that they are not. */
    private static GoingDark known(String text, int by, int facts, boolean areSo) {
        GoingDark x = at(text);
        for (int fact = 0; fact < facts; fact++) {
            x.hear(by, fact, false, 0, areSo);
        }
        return x;
    }

    private void next() {
        nextIs("all like: the least, 0", at("l1,l2;11"), 0);
        nextIs("a FIRE tells nothing: the next one", at("f1,l2;11"), 8);
        nextIs("only FIRES: the least, 0", at("f1,f2;11"), 0);
        nextIs("a SAINT as a LIGHT", at("f1,s2;11"), 8);
        nextIs("a LIAR tells as well", at("f1,i2;11"), 8);
        nextIs("a FOOL tells as well", at("f1,o2;11"), 8);
        nextIs("the last of five", at("f1,f2,f3,f4,l5;11"), 32);
        nextIs("FACT 0 is known: of FACT 1", known("l1,l2;11", 0, 1, true), 2);
        nextIs("FACTS 0 to 2 are known: of FACT 3", known("l1,l2;11", 0, 3, true), 6);
        nextIs("the last FACT of the last of five", known("f1,f2,f3,f4,l5;11", 4, 3, true), 38);
        nextIs("FACT 0 is known not to be so: of FACT 1", known("l1,l2;11", 0, 1, false), 2);
        nextIs("two WORLDS, 0 and 8: of FACT 3", known("l1,l2;11", 0, 3, false), 6);
        nextIs("WORLD 0 alone is left: the least, 0", known("f1,l2;11", 1, 4, false), 0);
        nextIs("one WORLD is left: the least, 0", known("f1,l2;11", 1, 4, true), 0);
        edge(17, "one that is dark is not asked", () -> {
            GoingDark x = at("l1,l2;11");
            x.ask(0, 0, false);
            due("next", x.next(), 8);
            x.breath();
            due("lit again", x.next(), 0);
        });
        edge(17, "one that is dark is not asked, though one WORLD is left", () -> {
            GoingDark x = known("l1,l2;11", 0, 4, true);
            x.ask(0, 0, false);
            due("next", x.next(), 8);
        });
        edge(17, "only a FIRE is lit: it is asked", () -> {
            GoingDark x = at("l1,f2;11");
            x.ask(0, 0, false);
            due("next", x.next(), 8);
        });
        edge(17, "a FOOL on an odd BREATH tells as well", () -> {
            GoingDark x = at("f1,o2;11");
            x.breath();
            due("next", x.next(), 8);
        });
        edge(17, "fewest at worst: a half is fewer than all, though another is less", () -> {
            GoingDark x = at("l1,s2;11");
            x.hear(0, 0, false, 0, true);
            x.hear(0, 2, false, 0, true);
            due("next", x.next(), 2);
        });
        edge(17, "a FACT that is known is asked of never while one is not", () -> {
            GoingDark x = at("l1,l2;11");
            x.hear(0, 0, false, 0, true);
            x.hear(0, 1, true, 0, true);
            x.hear(0, 3, true, 0, true);
            due("next", x.next(), 4);
        });
        edge(17, "who may not go dark is asked, too", () -> {
            GoingDark x = at("s1,l9;01");
            x.ship(1, 0);
            due("may", x.about(0, 3), 0);
            due("next", x.next(), 0);
        });
    }

    // ---- promise 18

    private void kindsRefused() {
        edge(18, "UNKNOWN: LIGHT -1", () -> refused(UNKNOWN, x -> x.kinds(-1), Scene.ALL));
        edge(18, "UNKNOWN: the number behind the last LIGHT", () -> {
            refused(UNKNOWN, x -> x.kinds(5), Scene.FRESH, Scene.BUSY);
            refused(UNKNOWN, x -> x.kinds(3), Scene.FILLED, Scene.DARKENED, Scene.BEWILDERED);
        });
        edge(18, "UNKNOWN: numbers far away", () -> {
            refused(UNKNOWN, x -> x.kinds(MAX), Scene.ALL);
            refused(UNKNOWN, x -> x.kinds(MIN), Scene.ALL);
        });
        edge(18, "UNKNOWN: no STRAIT", () -> refused(UNKNOWN, x -> x.kinds(0), Scene.WITHOUT_STRAIT));
        edge(18, "it changes nothing", () -> {
            changesNothing(x -> x.kinds(0), Scene.WITH_STRAIT);
            changesNothing(x -> x.kinds(2), Scene.WITH_STRAIT);
        });
    }

    private void kinds() {
        edge(18, "nothing was HEARD: each KIND, 31", () -> {
            for (int light = 0; light < 5; light++) {
                due("light " + light, Scene.FRESH.make().kinds(light), 31);
            }
        });
        edge(18, "only of others was HEARD: each KIND", () -> {
            GoingDark x = at("l5,l0;43");
            x.hear(0, 0, false, 0, true);
            due("the other", x.kinds(1), 31);
        });
        edge(18, "it said no once: all but a FIRE", () -> {
            GoingDark x = at("l5,l0;43");
            x.hear(0, 0, false, 0, false);
            due("kinds", x.kinds(0), 29);
        });
        edge(18, "a FIRE that said no: its own KIND is none it can be", () -> {
            GoingDark x = at("f5,l0;43");
            x.hear(0, 0, false, 0, false);
            due("kinds", x.kinds(0), 29);
            due("the other's: none, for the FIRE said no", x.kinds(1), 0);
        });
        edge(18, "yes to both: a FIRE or a SAINT", () -> {
            GoingDark x = at("l5,l0;43");
            x.hear(0, 0, false, 0, true);
            x.hear(0, 0, true, 0, true);
            due("kinds", x.kinds(0), 6);
        });
        edge(18, "no to both: none, 0", () -> {
            GoingDark x = at("l5,l0;43");
            x.hear(0, 0, false, 0, false);
            x.hear(0, 0, true, 0, false);
            due("kinds", x.kinds(0), 0);
        });
        edge(18, "no on an even BREATH and on an odd one of the same: no FOOL", () -> {
            GoingDark x = at("l5,l0;43");
            x.hear(0, 0, false, 98, false);
            x.hear(0, 0, false, 99, false);
            due("kinds", x.kinds(0), 13);
        });
        edge(18, "no, then no to the TURNED on the next BREATH: a FOOL alone", () -> {
            GoingDark x = at("l5,l0;43");
            x.hear(0, 0, false, 0, false);
            x.hear(0, 0, true, 1, false);
            due("kinds", x.kinds(0), 16);
        });
        edge(18, "a LIAR and no other LIGHT: a FOOL is a bit of its own", () -> {
            GoingDark x = at("l5,l0;43");
            x.hear(1, 0, false, 0, true);
            x.hear(0, 0, false, 0, false);
            x.hear(0, 0, false, 1, false);
            due("kinds", x.kinds(0), 8);
        });
        edge(18, "all else as it is HEARD: the others are of their KINDS", () -> {
            GoingDark x = at("l5,i0;43");
            x.hear(1, 0, false, 0, true);
            x.hear(0, 0, false, 0, true);
            due("FACT 0 is not so by the LIAR", x.kinds(0), 2 + 4 + 8 + 16);
            due("FACT 0 is so by the LIGHT", x.kinds(1), 1 + 2 + 4);
        });
        edge(18, "none by others alone: 0 for each", () -> {
            GoingDark x = at("l5,l0,l1;43");
            x.hear(0, 0, false, 0, true);
            x.hear(1, 0, false, 0, false);
            due("one who said nothing", x.kinds(2), 0);
            due("one of the two", x.kinds(0), 2 + 4 + 8 + 16);
        });
        edge(18, "the last of five", () -> {
            GoingDark x = Scene.FRESH.make();
            x.hear(4, 3, true, 99, false);
            due("kinds", x.kinds(4), 29);
        });
    }

    // ---- promise 19

    private void nightsRefused() {
        edge(19, "OUTSIDE: BREATHS 0", () -> refused(OUTSIDE, x -> x.nights(0, 0, 0), Scene.ALL));
        edge(19, "OUTSIDE: BREATHS 41", () -> refused(OUTSIDE, x -> x.nights(41, 0, 0), Scene.ALL));
        edge(19, "OUTSIDE: BREATHS far away", () -> {
            refused(OUTSIDE, x -> x.nights(-1, 0, 0), Scene.ALL);
            refused(OUTSIDE, x -> x.nights(MAX, 0, 1), Scene.ALL);
            refused(OUTSIDE, x -> x.nights(MIN, 0, 2), Scene.ALL);
        });
        edge(19, "OUTSIDE: SEED -1", () -> refused(OUTSIDE, x -> x.nights(1, -1, 0), Scene.ALL));
        edge(19, "OUTSIDE: the least SEED there is", () -> refused(OUTSIDE, x -> x.nights(40, MIN, 2), Scene.ALL));
        edge(19, "OUTSIDE: what -1", () -> refused(OUTSIDE, x -> x.nights(1, 0, -1), Scene.ALL));
        edge(19, "OUTSIDE: what 3", () -> refused(OUTSIDE, x -> x.nights(1, 0, 3), Scene.ALL));
        edge(19, "OUTSIDE: what far away", () -> {
            refused(OUTSIDE, x -> x.nights(1, 0, MAX), Scene.ALL);
            refused(OUTSIDE, x -> x.nights(1, 0, MIN), Scene.ALL);
        });
        for (int what = 0; what <= 2; what++) {
            int one = what;
            edge(19, "STATE: no STRAIT, what " + what, () -> refused(STATE, x -> x.nights(40, MAX, one), Scene.WITHOUT_STRAIT));
            edge(19, "as they would be: what " + what + " changes nothing", () ->
                changesNothing(x -> x.nights(40, 77, one), Scene.WITH_STRAIT));
        }
        edge(19, "OUTSIDE is told ahead of STATE", () -> {
            refused(OUTSIDE, x -> x.nights(0, 0, 0), Scene.WITHOUT_STRAIT);
            refused(OUTSIDE, x -> x.nights(1, -1, 0), Scene.WITHOUT_STRAIT);
            refused(OUTSIDE, x -> x.nights(1, 0, 3), Scene.WITHOUT_STRAIT);
        });
    }

    /** Draws in numbers without bounds, so that no wrapping of the class's own can hide in them. */
    private static final class Draws {
        private BigInteger seed;

        Draws(int seed) {
            this.seed = BigInteger.valueOf(seed);
        }

        int of(int many) {
            seed = seed.multiply(BigInteger.valueOf(1103515245)).add(BigInteger.valueOf(12345));
            seed = seed.mod(BigInteger.TWO.pow(31));
            return seed.divide(BigInteger.valueOf(65536)).mod(BigInteger.valueOf(many)).intValueExact();
        }

        static int seedBehind(int seed, int draws) {
            Draws all = new Draws(seed);
            for (int n = 0; n < draws; n++) {
                all.of(2);
            }
            return all.seed.intValueExact();
        }
    }

    private static GoingDark bothDark() {
        GoingDark x = at("l1,l2;19");
        x.ask(0, 0, false);
        x.ask(1, 0, false);
        return x;
    }

    private void nightsDraws() {
        for (int seed : SEEDS) {
            edge(19, "SEED " + seed + ": three DRAWS of each that is lit, rest by 2 to the 31", () -> {
                int[] many = {1, 2, 39, 40};
                for (int breaths : many) {
                    due("SEED behind " + breaths, at("f1,f2;11").nights(breaths, seed, 2), Draws.seedBehind(seed, 3 * breaths));
                }
            });
            edge(19, "SEED " + seed + ": dark, nothing more is drawn", () -> {
                due("SEED behind 1", bothDark().nights(1, seed, 2), Draws.seedBehind(seed, 1));
                due("SEED behind 9", bothDark().nights(9, seed, 2), Draws.seedBehind(seed, 9));
                due("no", bothDark().nights(9, seed, 1), 0);
            });
            edge(19, "SEED " + seed + ": lit again within these BREATHS", () ->
                due("SEED behind 10", bothDark().nights(10, seed, 2), Draws.seedBehind(seed, 12)));
        }
        edge(19, "1 BREATH is the least: SEED 0", () -> due("SEED", at("f1,f2;11").nights(1, 0, 2), 654583775));
        for (int lights = 2; lights <= 5; lights++) {
            int many = lights;
            edge(19, "by a DRAW of how many there are: " + lights, () -> {
                for (int dark = 0; dark < many; dark++) {
                    for (int seed = 0; seed < 40; seed++) {
                        int drawn = new Draws(seed).of(many);
                        GoingDark x = at("l1,l1,l1,l1,l1".substring(0, 3 * many - 1) + ";11");
                        x.ask(dark, 0, false);
                        int want = Draws.seedBehind(seed, drawn == dark ? 1 : 3);
                        due("dark " + dark + ", SEED " + seed, x.nights(1, seed, 2), want);
                    }
                }
            });
        }
    }

    /** How often no is said if dark lasts one breath, so that each that is drawn is lit. */
    private static int noes(int facts, int from, int breaths, int seed, String kinds) {
        Draws draws = new Draws(seed);
        int noes = 0;
        for (int n = 0; n < breaths; n++) {
            char kind = kinds.charAt(draws.of(kinds.length()));
            boolean isSo = ((facts >> draws.of(4)) & 1) == 1;
            boolean isTrue = isSo != (draws.of(2) == 1);
            boolean isLie = kind == 'i' || (kind == 'o' && (from + n) % 2 == 0);
            if (kind != 'f' && isTrue == isLie) {
                noes++;
            }
        }
        return noes;
    }

    private void asksAll(String words, String text, String kinds, int from) {
        edge(19, words, () -> {
            for (int facts = 0; facts < 16; facts++) {
                GoingDark x = at(text);
                for (int fact = 0; fact < 4; fact++) {
                    x.fact(fact, ((facts >> fact) & 1) == 1);
                }
                breaths(x, from);
                for (int seed : SEEDS) {
                    for (int breaths = 1; breaths <= 40; breaths += 13) {
                        String call = "FACTS " + facts + ", nights(" + breaths + ", " + seed + ", 1)";
                        due(call, x.nights(breaths, seed, 1), noes(facts, from, breaths, seed, kinds));
                    }
                }
            }
        });
    }

    private void nightsQuestions() {
        asksAll("a FACT by a DRAW of 4, TURNED if a DRAW of 2 is 1: LIGHTS", "l1,l2;11", "ll", 0);
        asksAll("a LIAR and a FIRE", "i1,f2;11", "if", 0);
        asksAll("FOOLS from BREATH 0, by the BREATH it would be", "o1,o2;11", "oo", 0);
        asksAll("FOOLS from BREATH 1", "o1,o2;11", "oo", 1);
        asksAll("all KINDS, five", "l1,f2,s3,i4,o5;11", "lfsio", 3);
        edge(19, "only FIRES: no is never said", () -> {
            for (int seed : SEEDS) {
                due("no by " + seed, at("f1,f2;11").nights(40, seed, 1), 0);
            }
        });
        edge(19, "no that was said ahead of them is not counted", () -> {
            GoingDark x = at("f1,l2;19");
            x.ask(1, 0, false);
            due("no", x.nights(9, 5, 1), 0);
            due("no so far", x.about(1, 6), 1);
        });
    }

    private void nightsLost() {
        edge(19, "LOST: no SHIP, 0", () -> {
            for (int seed : SEEDS) {
                due("LOST by " + seed, at("l1,l2;11").nights(40, seed, 0), 0);
            }
        });
        edge(19, "LOST: all three, where nothing shines", () -> {
            GoingDark x = at("f1,f2;01");
            for (int n = 0; n < 3; n++) {
                x.ship(7, 0);
            }
            due("LOST in 1", x.nights(1, 0, 0), 3);
            due("LOST in 40", x.nights(40, 0, 0), 3);
        });
        edge(19, "LOST in these alone, not ahead of them", () -> {
            GoingDark x = at("f1,f2;01");
            x.ship(7, 0);
            x.ship(1, 0);
            due("LOST by a BREATH", x.breath(), 1);
            due("LOST in 40", x.nights(40, 3, 0), 0);
        });
        edge(19, "LOST: in the last of so many BREATHS, not ahead of it", () -> {
            GoingDark x = at("f1,f2;01");
            x.ship(0, 1);
            due("in 1", x.nights(1, 9, 0), 0);
            due("in 2", x.nights(2, 9, 0), 0);
            due("in 3", x.nights(3, 9, 0), 1);
        });
        edge(19, "THROUGH is not LOST", () -> {
            GoingDark x = at("f1,f2;91");
            x.ship(0, -1);
            x.ship(9, 1);
            x.ship(0, 1);
            due("LOST in 40", x.nights(40, 9, 0), 0);
        });
        edge(19, "ahead of each BREATH one is ASKED: it is dark in that one", () -> {
            // SEED 0 draws LIGHT 0, FACT 0, plain
            GoingDark x = at("l3,l9;01");
            x.ship(3, 0);
            due("no", x.nights(1, 0, 1), 1);
            due("LOST", x.nights(1, 0, 0), 1);
            x.fact(0, true);
            due("no to what is TRUE", x.nights(1, 0, 1), 0);
            due("LOST", x.nights(1, 0, 0), 0);
        });
        edge(19, "SAINTS lose no SHIP that stays in their light", () -> {
            for (int seed = 0; seed < 30; seed++) {
                GoingDark x = at("s3,s3;09");
                x.ship(3, 0);
                due("LOST by " + seed, x.nights(40, seed, 0), 0);
            }
        });
        edge(19, "a SAINT that may not says yes, and is lit", () -> {
            GoingDark x = at("s3,f9;09");
            x.ship(3, 0);
            for (int seed : SEEDS) {
                due("no by " + seed, x.nights(40, seed, 1), 0);
                due("SEED by " + seed, x.nights(40, seed, 2), Draws.seedBehind(seed, 120));
            }
        });
        edge(19, "the same twice, and behind other NIGHTS", () -> {
            GoingDark x = Scene.BUSY.make();
            int first = x.nights(40, 12, 2);
            x.nights(7, 99, 0);
            due("SEED", x.nights(40, 12, 2), first);
        });
    }
}
