import java.math.BigInteger;
import java.util.ArrayList;
import java.util.List;

/** Boundary cases of promises 20 to 23: the image, what is told of all, and an object's last calls. */
public final class WholeEdgeTests extends EdgeSuite {
    public static void main(String[] args) {
        WholeEdgeTests all = new WholeEdgeTests();
        all.image();
        all.restoreRefused();
        all.restoreEach();
        all.restoreHeard();
        all.restoreLeaves();
        all.restoreAgain();
        all.countRefused();
        all.countBounds();
        all.digestBounds();
        all.digestOfScenes();
        all.lastCalls();
        all.end(20, 23);
    }

    // ---- promise 20

    private void image() {
        edge(20, "STATE: no STRAIT", () -> refused(STATE, GoingDark::image, Scene.WITHOUT_STRAIT));
        edge(20, "STATE keeps no IMAGE", () -> {
            GoingDark x = new GoingDark();
            x.image();
            write(x, "l5,f0;43");
            x.strait();
            due("restore", x.restore(), STATE);
        });
        edge(20, "the BREATH: 0", () -> due("image", Scene.FRESH.make().image(), 0));
        edge(20, "the BREATH: 300", () -> {
            GoingDark x = Scene.FRESH.make();
            breaths(x, 300);
            due("image", x.image(), 300);
            due("restore", x.restore(), 300);
        });
        edge(20, "one is kept, the latest", () -> {
            GoingDark x = Scene.FRESH.make();
            due("the first", x.image(), 0);
            x.breath();
            due("the latest", x.image(), 1);
            x.breath();
            due("restore", x.restore(), 1);
            due("restore again", x.restore(), 1);
        });
        edge(20, "the latest has nothing of the one ahead of it", () -> {
            GoingDark x = Scene.FILLED.make();
            x.image();
            x.forget();
            x.fact(2, false);
            x.image();
            x.fact(1, true);
            x.hear(0, 0, false, 0, true);
            x.restore();
            due("HEARD", x.count(9), 0);
            due("FACTS", x.count(4), 0);
            due("SHIPS", x.count(5), 3);
        });
        edge(20, "it changes nothing but the IMAGE", () -> {
            for (Scene scene : Scene.WITH_STRAIT) {
                GoingDark x = scene.make();
                long then = x.digest();
                due("image on " + scene, x.image(), x.count(8));
                due("digest on " + scene, x.digest(), then);
            }
        });
        edge(20, "one that is kept is not touched by what goes on", () -> {
            GoingDark x = Scene.FRESH.make();
            x.ship(3, 1);
            x.image();
            long then = x.digest();
            x.breath();
            x.fact(0, true);
            x.ask(0, 1, false);
            x.hear(0, 0, false, 0, false);
            x.nights(40, 5, 0);
            x.restore();
            due("digest", x.digest(), then);
        });
    }

    // ---- promise 21

    private void restoreRefused() {
        edge(21, "STATE: no STRAIT", () -> refused(STATE, GoingDark::restore, Scene.WITHOUT_STRAIT));
        edge(21, "STATE: none was kept", () -> refused(STATE, GoingDark::restore, Scene.FRESH));
        edge(21, "STATE: there is another STRAIT since", () -> {
            for (Scene scene : Scene.WITH_STRAIT) {
                GoingDark x = scene.make();
                x.image();
                x.blank();
                write(x, "l5,f0;43");
                x.strait();
                x.fact(1, true);
                x.ship(4, 0);
                long then = x.digest();
                due("restore on " + scene, x.restore(), STATE);
                due("nothing is changed on " + scene, x.digest(), then);
            }
        });
        edge(21, "STATE: another STRAIT of the same text since", () -> {
            GoingDark x = at("l5,f0;43");
            x.image();
            write(x, "l5,f0;43");
            x.strait();
            due("restore", x.restore(), STATE);
        });
        edge(21, "a new IMAGE of the other STRAIT", () -> {
            GoingDark x = Scene.BUSY.make();
            x.blank();
            write(x, "l5,f0;43");
            x.strait();
            x.breath();
            x.image();
            x.breath();
            due("restore", x.restore(), 1);
            due("LIGHTS", x.count(0), 2);
        });
        edge(21, "a STRAIT that is none leaves the IMAGE", () -> {
            GoingDark x = at("l5,f0;43");
            x.image();
            x.breath();
            write(x, "l5;43");
            due("strait", x.strait(), STATE);
            due("restore", x.restore(), 0);
        });
    }

    /** A thing is told, an image is kept, the thing is changed; by restore() it is as it was told. */
    private void isKept(String words, String text, Call change, Call look, long other) {
        edge(21, "an IMAGE keeps " + words, () -> {
            GoingDark x = at(text);
            x.fact(1, true);
            x.ship(3, 1);
            x.hear(0, 0, false, 0, true);
            long then = look.on(x);
            x.image();
            change.on(x);
            due("changed", look.on(x), other);
            due("restore", x.restore(), 0);
            due("as it was", look.on(x), then);
        });
    }

    private void restoreEach() {
        String text = "l3,l6;24";
        isKept("FACTS that are not so", text, x -> x.fact(3, true), x -> x.count(4), 10);
        isKept("FACTS that are so", text, x -> x.fact(1, false), x -> x.count(4), 0);
        isKept("how many SHIPS there are", text, x -> x.ship(5, 0), x -> x.count(5), 2);
        isKept("where they are", text, GoingDark::breath, x -> x.shipOf(0, 0), 4);
        isKept("who is at sea, ahead of LOST", text, WholeEdgeTests::wreck, x -> x.shipOf(0, 2), 2);
        isKept("how many are LOST", text, WholeEdgeTests::wreck, x -> x.count(7), 1);
        isKept("how many are at sea", text, WholeEdgeTests::wreck, x -> x.count(6), 0);
        isKept("who is at sea, ahead of THROUGH", "l3,l6;94", WholeEdgeTests::sevenBreaths, x -> x.shipOf(0, 2), 1);
        isKept("for how long who is dark: lit", text, x -> x.ask(0, 0, false), x -> x.about(0, 2), 4);
        isKept("how many are lit", text, x -> x.ask(1, 0, false), x -> x.count(3), 1);
        isKept("how often who was ASKED", text, x -> x.ask(1, 1, false), x -> x.about(1, 5), 1);
        isKept("how often who said no", text, x -> x.ask(1, 0, false), x -> x.about(1, 6), 1);
        isKept("the BREATH", text, GoingDark::breath, x -> x.count(8), 1);
        isKept("HEARD, and no more", text, x -> x.hear(1, 1, false, 0, true), x -> x.count(9), 2);
        isKept("HEARD, and no less", text, GoingDark::forget, x -> x.count(9), 0);
    }

    /** A fool on 0 was heard of fact 0, plain, on breath 0, to say no: it is so. Then something else is heard. */
    private void heardIsKept(String words, Call other, Call look, long then, long since) {
        edge(21, "an IMAGE keeps what was HEARD: " + words, () -> {
            GoingDark x = at("o3,l6;24");
            x.hear(0, 0, false, 0, false);
            due("ahead", look.on(x), then);
            x.image();
            x.forget();
            other.on(x);
            due("since", look.on(x), since);
            x.restore();
            due("as it was", look.on(x), then);
        });
    }

    private void restoreHeard() {
        heardIsKept("who said it", x -> x.hear(1, 0, false, 0, false), x -> x.worlds(2), 1, 0);
        heardIsKept("of which FACT", x -> x.hear(0, 2, false, 0, false), x -> x.worlds(2), 1, 4);
        heardIsKept("TURNED or not", x -> x.hear(0, 0, true, 0, false), x -> x.worlds(2), 1, 0);
        heardIsKept("on which BREATH", x -> x.hear(0, 0, false, 1, false), x -> x.worlds(2), 1, 0);
        heardIsKept("yes or no", x -> x.hear(0, 0, false, 0, true), x -> x.worlds(2), 1, 0);
        edge(21, "an IMAGE keeps what was HEARD: the eighth, too", () -> {
            GoingDark x = at("f3,l6;24");
            for (int n = 0; n < 7; n++) {
                x.hear(0, 0, false, 0, true);
            }
            x.hear(1, 3, true, 0, false);
            x.image();
            x.forget();
            for (int n = 0; n < 8; n++) {
                x.hear(1, 1, false, 1, true);
            }
            due("since", x.worlds(2), 2);
            x.restore();
            due("as it was", x.worlds(2), 8);
        });
    }

    private static long wreck(GoingDark x) {
        x.ask(0, 0, false);
        x.ask(1, 0, false);
        return x.breath();
    }

    private static long sevenBreaths(GoingDark x) {
        breaths(x, 7);
        return x.count(8);
    }

    private void restoreLeaves() {
        edge(21, "for how long who is dark: as long as it was, though lit since", () -> {
            GoingDark x = at("l3,l6;29");
            x.ask(0, 0, false);
            breaths(x, 2);
            x.image();
            breaths(x, 9);
            due("lit", x.about(0, 2), 0);
            due("restore", x.restore(), 2);
            due("dark for", x.about(0, 2), 7);
            due("the other", x.about(1, 2), 0);
        });
        edge(21, "who was LOST or THROUGH is so", () -> {
            GoingDark x = Scene.FILLED.make();
            x.image();
            x.restore();
            due("THROUGH", x.shipOf(0, 2), 1);
            due("LOST", x.shipOf(1, 2), 2);
            due("at sea", x.shipOf(2, 2), 0);
            due("LOST by a BREATH", x.breath(), 0);
        });
        edge(21, "SHIPS that come since are gone, and their numbers are free", () -> {
            GoingDark x = at("l3,l6;24");
            x.ship(3, 0);
            x.image();
            x.ship(4, 1);
            x.ship(5, -1);
            due("FULL", x.ship(5, -1), FULL);
            x.restore();
            due("gone", x.shipOf(1, 0), UNKNOWN);
            due("the next number", x.ship(6, 0), 1);
            due("the next number", x.ship(7, 0), 2);
            due("PLACE", x.shipOf(1, 0), 6);
        });
        edge(21, "an IMAGE with no SHIP", () -> {
            GoingDark x = at("l3,l6;24");
            x.image();
            x.ship(4, 1);
            x.restore();
            due("SHIPS", x.count(5), 0);
            due("at sea", x.count(6), 0);
            due("gone", x.shipOf(0, 0), UNKNOWN);
        });
        edge(21, "HEARD, all eight, are back: FULL again", () -> {
            GoingDark x = Scene.FILLED.make();
            int worlds = x.worlds(0);
            int kinds = x.kinds(1);
            x.image();
            x.forget();
            x.restore();
            due("HEARD", x.count(9), 8);
            due("WORLDS", x.worlds(0), worlds);
            due("KINDS", x.kinds(1), kinds);
            due("one more", x.hear(0, 0, false, 0, true), FULL);
        });
        edge(21, "no more FULL when the IMAGE has fewer HEARD", () -> {
            GoingDark x = Scene.FILLED.make();
            x.restore();
            due("HEARD", x.count(9), 0);
            due("hear", x.hear(0, 0, false, 0, true), 1);
        });
        edge(21, "THE PAGE is not in it", () -> {
            GoingDark x = Scene.BUSY.make();
            x.restore();
            due("letters", x.count(10), 4);
            due("fault", x.fault(), 4);
            x.blank();
            x.restore();
            due("letters", x.count(10), 0);
        });
        edge(21, "how often a STRAIT was read is not in it", () -> {
            GoingDark x = Scene.BUSY.make();
            x.restore();
            due("read", x.count(11), 2);
        });
    }

    private void restoreAgain() {
        edge(21, "it is kept yet: again and again", () -> {
            GoingDark x = Scene.BUSY.make();
            x.restore();
            long then = x.digest();
            for (int n = 0; n < 3; n++) {
                x.ask(0, 0, false);
                x.breath();
                x.hear(0, 0, false, 0, false);
                x.ship(2, 1);
                due("restore", x.restore(), 1);
                due("digest", x.digest(), then);
            }
        });
        edge(21, "it goes on from there as it went on", () -> {
            for (Scene scene : Scene.WITH_STRAIT) {
                GoingDark x = scene.make();
                x.image();
                List<Long> first = forward(x);
                x.restore();
                due("on " + scene, forward(x).equals(first) ? 1 : 0, 1);
            }
        });
        edge(21, "an IMAGE of what was restored", () -> {
            GoingDark x = Scene.BUSY.make();
            x.restore();
            due("image", x.image(), 1);
            x.breath();
            due("restore", x.restore(), 1);
        });
        edge(21, "with nothing changed since, nothing is", () -> {
            for (Scene scene : Scene.WITH_STRAIT) {
                GoingDark x = scene.make();
                x.image();
                long then = x.digest();
                due("restore on " + scene, x.restore(), x.count(8));
                due("digest on " + scene, x.digest(), then);
            }
        });
    }

    private static List<Long> forward(GoingDark x) {
        List<Long> told = new ArrayList<>();
        for (int n = 0; n < 12; n++) {
            told.add((long) x.ask(n % 3, n % 4, n % 2 == 0));
            told.add((long) x.breath());
            told.add((long) x.hear(n % 2, n % 4, n % 3 == 0, n, n % 5 == 0));
            told.add(x.digest());
        }
        return told;
    }

    // ---- promise 22

    private void countRefused() {
        edge(22, "OUTSIDE: what -1", () -> refused(OUTSIDE, x -> x.count(-1), Scene.ALL));
        edge(22, "OUTSIDE: what 12", () -> refused(OUTSIDE, x -> x.count(12), Scene.ALL));
        edge(22, "OUTSIDE: what far away", () -> {
            refused(OUTSIDE, x -> x.count(MAX), Scene.ALL);
            refused(OUTSIDE, x -> x.count(MIN), Scene.ALL);
        });
        for (int what = 0; what <= 11; what++) {
            int one = what;
            edge(22, "what " + what + " changes nothing", () -> changesNothing(x -> x.count(one), Scene.ALL));
        }
    }

    private void counts(String words, Scene scene, int... want) {
        edge(22, words, () -> {
            GoingDark x = scene.make();
            for (int what = 0; what <= 11; what++) {
                due("count(" + what + ")", x.count(what), want[what]);
            }
        });
    }

    private void countBounds() {
        counts("no STRAIT: 0 of all", Scene.NEW, 0, 0, 0, 0, 0, 0, 0, 0, 0, 0, 0, 0);
        counts("no STRAIT: letters of THE PAGE alone", Scene.WRITTEN, 0, 0, 0, 0, 0, 0, 0, 0, 0, 0, 7, 0);
        counts("no STRAIT: a full PAGE", Scene.CROWDED, 0, 0, 0, 0, 0, 0, 0, 0, 0, 0, 18, 0);
        counts("a STRAIT of five, just read", Scene.FRESH, 5, 1, 3, 5, 0, 0, 0, 0, 0, 0, 0, 1);
        counts("the second STRAIT", Scene.BUSY, 5, 2, 3, 3, 8, 2, 2, 0, 2, 3, 4, 2);
        counts("all full: LOST, THROUGH, at sea", Scene.FILLED, 3, 1, 2, 2, 4, 3, 1, 1, 1, 8, 18, 1);
        counts("none is lit", Scene.DARKENED, 3, 1, 4, 0, 1, 1, 1, 0, 0, 1, 0, 1);
        counts("no WORLDS", Scene.BEWILDERED, 3, 3, 1, 3, 0, 1, 1, 0, 0, 3, 1, 1);
        edge(22, "REACH 0 and DARK 1, the least", () -> {
            due("REACH", at("l5,f0;01").count(1), 0);
            due("DARK", at("l5,f0;01").count(2), 1);
        });
        edge(22, "REACH 9 and DARK 9, the greatest", () -> {
            due("REACH", at("l5,f0;99").count(1), 9);
            due("DARK", at("l5,f0;99").count(2), 9);
        });
        edge(22, "all FACTS are so: 15", () -> {
            GoingDark x = Scene.FRESH.make();
            for (int fact = 0; fact < 4; fact++) {
                x.fact(fact, true);
            }
            due("FACTS", x.count(4), 15);
        });
        edge(22, "all three LOST, none at sea", () -> {
            GoingDark x = at("l5,f0;01");
            for (int n = 0; n < 3; n++) {
                x.ship(9, 0);
            }
            x.breath();
            due("SHIPS", x.count(5), 3);
            due("at sea", x.count(6), 0);
            due("LOST", x.count(7), 3);
        });
        edge(22, "all three THROUGH: neither at sea nor LOST", () -> {
            GoingDark x = at("l5,f0;01");
            for (int n = 0; n < 3; n++) {
                x.ship(9, 1);
            }
            x.breath();
            due("SHIPS", x.count(5), 3);
            due("at sea", x.count(6), 0);
            due("LOST", x.count(7), 0);
        });
        edge(22, "how often a STRAIT was read: not by a refused one", () -> {
            GoingDark x = new GoingDark();
            for (int n = 1; n <= 20; n++) {
                x.strait();
                write(x, "l5,f0;43");
                x.strait();
                due("read", x.count(11), n);
            }
        });
    }

    // ---- promise 23

    /** The numbers are told in order, so that the sum can be made without bounds and cut to a long at the end. */
    private static List<Integer> numbers(GoingDark x, String page) {
        List<Integer> all = new ArrayList<>();
        for (int light = 0; light < x.count(0); light++) {
            for (int what = 0; what <= 6; what++) {
                all.add(x.about(light, what));
            }
            all.add(x.kinds(light));
        }
        for (int ship = 0; ship < x.count(5); ship++) {
            for (int what = 0; what <= 3; what++) {
                all.add(x.shipOf(ship, what));
            }
        }
        if (x.count(0) > 0) {
            all.add(x.atOnce(0));
            all.add(x.atOnce(1));
            for (int what = 0; what <= 3; what++) {
                all.add(x.worlds(what));
            }
            all.add(x.next());
        }
        for (int i = 0; i < page.length(); i++) {
            all.add((int) page.charAt(i));
        }
        for (int what = 0; what <= 11; what++) {
            all.add(x.count(what));
        }
        return all;
    }

    private static long folded(List<Integer> numbers) {
        BigInteger h = BigInteger.valueOf(877);
        for (int one : numbers) {
            h = h.multiply(BigInteger.valueOf(31)).add(BigInteger.valueOf(one));
        }
        return h.longValue();
    }

    private void digestBounds() {
        edge(23, "a new object: twelve times nothing, wrapping", () -> {
            BigInteger h = BigInteger.valueOf(877).multiply(BigInteger.valueOf(31).pow(12));
            due("it wraps", h.bitLength() > 64 ? 1 : 0, 1);
            due("digest", new GoingDark().digest(), h.longValue());
        });
        edge(23, "no STRAIT: letters of THE PAGE, the least and the greatest code", () -> {
            GoingDark x = new GoingDark();
            x.letter(1);
            x.letter(126);
            List<Integer> want = new ArrayList<>(List.of(1, 126));
            want.addAll(List.of(0, 0, 0, 0, 0, 0, 0, 0, 0, 0, 2, 0));
            due("digest", x.digest(), folded(want));
        });
        edge(23, "two LIGHTS and nothing else, number by number", () -> {
            List<Integer> want = new ArrayList<>(List.of(0, 5, 0, 1, 0, 0, 0, 31));
            want.addAll(List.of(1, 0, 0, 1, 0, 0, 0, 31));
            want.addAll(List.of(2, 3, 16, 0, 0, 15, 0));
            want.addAll(List.of(2, 4, 3, 2, 0, 0, 0, 0, 0, 0, 0, 1));
            due("digest", at("l5,f0;43").digest(), folded(want));
        });
        edge(23, "NONE is in it as -1: WHEN, WORLDS, NEXT", () -> {
            GoingDark x = at("f5,l0;03");
            x.ship(5, 0);
            x.hear(0, 0, false, 0, false);
            x.ask(1, 0, false);
            List<Integer> want = new ArrayList<>(List.of(1, 5, 0, 0, -1, 0, 0, 29));
            want.addAll(List.of(0, 0, 3, 0, 3, 1, 1, 0));
            want.addAll(List.of(5, 1, 0, 1));
            want.addAll(List.of(0, 0, 0, -1, -1, -1, -1));
            want.addAll(List.of(2, 0, 3, 1, 0, 1, 1, 0, 0, 1, 0, 1));
            due("digest", x.digest(), folded(want));
        });
        edge(23, "a STRAIT with SHIPS, LOST and THROUGH, and a begun PAGE", () -> {
            GoingDark x = at("l5,l5;01");
            x.ship(9, 1);
            x.ship(0, 0);
            x.breath();
            x.letter('o');
            List<Integer> want = new ArrayList<>(List.of(0, 5, 0, 1, 0, 0, 0, 31, 0, 5, 0, 1, 0, 0, 0, 31));
            want.addAll(List.of(9, 2, 1, 0, 0, 1, 2, 0));
            want.addAll(List.of(2, 3, 16, 0, 0, 15, 0, (int) 'o'));
            want.addAll(List.of(2, 0, 1, 2, 0, 2, 0, 1, 1, 0, 1, 1));
            due("digest", x.digest(), folded(want));
        });
        edge(23, "it changes nothing", () -> changesNothing(GoingDark::digest, Scene.ALL));
        edge(23, "an IMAGE is not in it", () -> {
            GoingDark x = at("l5,f0;43");
            long then = x.digest();
            x.image();
            due("digest", x.digest(), then);
        });
    }

    private void digestOfScenes() {
        String[] pages = {"", "l5,f0;4", "l1,l2,l3,l4,l5;111", "", "l3,f", "l5,f0;43,l5,f0;43x", "", "i"};
        for (Scene scene : Scene.ALL) {
            edge(23, "what each call tells, in order: " + scene, () -> {
                GoingDark x = scene.make();
                due("digest", x.digest(), folded(numbers(x, pages[scene.ordinal()])));
            });
        }
    }

    // ---- an object is used for at most 512 calls

    private void lastCalls() {
        edge(23, "the 512th call answers as the first would", () -> {
            GoingDark x = at("l5,o5;43");
            int made = 9;
            for (; made < 509; made++) {
                x.breath();
            }
            due("call 510, BREATH", x.count(8), 500);
            due("call 511, a FOOL on an even BREATH", x.ask(1, 0, false), 1);
            List<Integer> want = new ArrayList<>(List.of(0, 5, 0, 1, 0, 0, 0, 31, 4, 5, 0, 1, 0, 1, 0, 31));
            want.addAll(List.of(2, 3, 16, 0, 0, 15, 0));
            want.addAll(List.of(2, 4, 3, 2, 0, 0, 0, 0, 500, 0, 0, 1));
            due("call 512, digest", x.digest(), folded(want));
        });
        edge(22, "a STRAIT was read as often as an object has calls for it", () -> {
            GoingDark x = new GoingDark();
            for (int n = 0; n < 56; n++) {
                write(x, "l5,f0;43");
                x.strait();
            }
            due("call 505, read", x.count(11), 56);
        });
    }
}
