/** For each promise of the document: ordinary inputs, its edges, wrong inputs. */
public final class PromiseTests {
    private static final int NONE = -1, UNKNOWN = -101, OUTSIDE = -102, STATE = -103, FULL = -104;
    private static final int[] WILD = {-1, 1 << 20, Integer.MIN_VALUE, Integer.MAX_VALUE};
    private static final Check check = new Check();

    public static void main(String[] args) {
        promise1NewObject();
        promise2Letter();
        promise3Blank();
        promise4Fault();
        promise5Strait();
        promise6About();
        promise6When();
        promise7As();
        promise8Fact();
        promise9Ship();
        promise10ShipOf();
        promise11Ask();
        promise11AskSaint();
        promise12Breath();
        promise13AtOnce();
        promise14Hear();
        promise15Forget();
        promise16Worlds();
        promise17Next();
        promise18Kinds();
        promise19Nights();
        promise20Image();
        promise21Restore();
        promise22Count();
        promise23Digest();
        check.end("PromiseTests");
    }

    private static void due(String call, long got, long want) {
        check.due(call, got, want);
    }

    private static void write(GoingDark x, String text) {
        for (int i = 0; i < text.length(); i++) {
            x.letter(text.charAt(i));
        }
    }

    private static GoingDark at(String text) {
        GoingDark x = new GoingDark();
        write(x, text);
        x.strait();
        return x;
    }

    private static void breaths(GoingDark x, int many) {
        for (int i = 0; i < many; i++) {
            x.breath();
        }
    }

    private static void promise1NewObject() {
        GoingDark x = new GoingDark();
        for (int what = 0; what <= 11; what++) {
            due("1: count(" + what + ")", x.count(what), 0);
        }
        due("1: about", x.about(0, 0), UNKNOWN);
        due("1: shipOf", x.shipOf(0, 0), UNKNOWN);
        due("1: kinds", x.kinds(0), UNKNOWN);
        due("1: worlds", x.worlds(0), STATE);
        due("1: next", x.next(), STATE);
        due("1: breath", x.breath(), STATE);
        due("1: restore", x.restore(), STATE);
        due("NONE", GoingDark.NONE, NONE);
        due("UNKNOWN", GoingDark.UNKNOWN, UNKNOWN);
        due("OUTSIDE", GoingDark.OUTSIDE, OUTSIDE);
        due("STATE", GoingDark.STATE, STATE);
        due("FULL", GoingDark.FULL, FULL);
    }

    private static void promise2Letter() {
        GoingDark x = new GoingDark();
        due("2: letter(0)", x.letter(0), OUTSIDE);
        due("2: letter(127)", x.letter(127), OUTSIDE);
        for (int code : WILD) {
            due("2: letter wild", x.letter(code), OUTSIDE);
        }
        due("2: none came", x.count(10), 0);
        due("2: letter(1)", x.letter(1), 1);
        due("2: letter(126)", x.letter(126), 2);
        for (int n = 3; n <= 18; n++) {
            due("2: letter " + n, x.letter('l'), n);
        }
        due("2: the 19th", x.letter('l'), FULL);
        due("2: OUTSIDE ahead of FULL", x.letter(0), OUTSIDE);
        due("2: 18 stay", x.count(10), 18);
    }

    private static void promise3Blank() {
        GoingDark x = new GoingDark();
        due("3: empty", x.blank(), 0);
        write(x, "l5,");
        due("3: three", x.blank(), 3);
        due("3: then none", x.count(10), 0);
        due("3: again", x.blank(), 0);
        write(x, "123456789012345678");
        due("3: full", x.blank(), 18);
        due("3: room again", x.letter('l'), 1);
        due("3: new letters", x.fault(), 1);
        GoingDark y = at("l5,f0;43");
        y.blank();
        due("3: the strait stays", y.count(0), 2);
    }

    private static void promise4Fault() {
        Object[][] rows = {
            {"", 0}, {"l", 1}, {"f", 1}, {"s", 1}, {"i", 1}, {"o", 1}, {"x", 0}, {"L", 0}, {"5", 0}, {",", 0},
            {";", 0}, {"l5", 2}, {"ll", 1}, {"l/", 1}, {"l:", 1}, {"l0", 2}, {"l9", 2}, {"l,", 1}, {"l5;", 2},
            {"l5 ", 2}, {"l5,", 3}, {"l5,,", 3}, {"l5,f", 4}, {"l5,f0", 5}, {"l5,f0,", 6}, {"l5,f0;", 6},
            {"l5,f0l", 5}, {"l5,f0;x", 6}, {"l5,f0;;", 6}, {"l5,f0;,", 6}, {"l5,f0;0", 7}, {"l5,f0;9", 7},
            {"l5,f0;40", 7}, {"l5,f0;4,", 7}, {"l5,f0;4:", 7}, {"l5,f0;41", 8}, {"l5,f0;49", 8}, {"l5,f0;431", 8},
            {"l5,f0;43;", 8}, {"l5,f0;43,l1;11", 8}, {"l1,l2,l3;11", 11}, {"l1,l2,l3,l4;11", 14},
            {"l1,l2,l3,l4,l5;11", 17}, {"l1,l2,l3,l4,l5,", 14}, {"l1,l2,l3,l4,l5;111", 17}, {"l1,x2,l3;11", 3},
            {"xx", 0}, {"l5,f0;4", 7}};
        for (Object[] row : rows) {
            GoingDark x = new GoingDark();
            write(x, (String) row[0]);
            due("4: fault of " + row[0], x.fault(), (Integer) row[1]);
            due("4: the page stays", x.count(10), ((String) row[0]).length());
        }
    }

    private static void promise5Strait() {
        String whole = "l5,f0;43";
        for (int n = 0; n < whole.length(); n++) {
            GoingDark x = new GoingDark();
            write(x, whole.substring(0, n));
            due("5: strait of " + n + " letters", x.strait(), STATE);
            due("5: the page stays", x.count(10), n);
            due("5: none was read", x.count(11), 0);
        }
        String[] none = {"l5;43", "l5,f0;40", "l5,f0;431", "l1,l2,l3,l4,l5;1", "l5,f0;4;", "x5,f0;43", "l1,l2,l3,l4,l5,l6;"};
        for (String text : none) {
            GoingDark x = new GoingDark();
            write(x, text);
            due("5: strait of " + text, x.strait(), STATE);
        }
        due("5: two", straitOf("l5,f0;43"), 2);
        due("5: three", straitOf("l5,f0,s5;01"), 3);
        due("5: four", straitOf("l5,f0,s5,i9;99"), 4);
        due("5: five", straitOf("o3,o3,i3,l3,s3;31"), 5);
        GoingDark x = at("s1,i4,o6,l9;23");
        stir(x);
        write(x, "l5,f0;4");
        due("5: refused", x.strait(), STATE);
        due("5: all stays", x.count(0) * 100 + x.count(5) * 10 + x.count(9), 421);
        x.letter('3');
        due("5: another", x.strait(), 2);
        int[] first = {2, 4, 3, 2, 0, 0, 0, 0, 0, 0, 0, 2};
        for (int what = 0; what <= 11; what++) {
            due("5: as at first, count(" + what + ")", x.count(what), first[what]);
        }
        for (int what = 0; what <= 6; what++) {
            due("5: about(1, " + what + ")", x.about(1, what), what == 0 || what == 3 ? 1 : 0);
        }
        due("5: no image", x.restore(), STATE);
        due("5: no ship", x.shipOf(0, 0), UNKNOWN);
        due("5: sixteen worlds", x.worlds(0), 16);
        due("5: the third is gone", x.about(2, 0), UNKNOWN);
    }

    private static int straitOf(String text) {
        GoingDark x = new GoingDark();
        write(x, text);
        return x.strait();
    }

    /** Two ships, a breath, one heard, one dark, a fact, an image. */
    private static void stir(GoingDark x) {
        x.ship(4, 0);
        x.ship(5, 0);
        x.fact(1, true);
        x.ask(1, 1, false);
        x.breath();
        x.hear(0, 0, false, 3, false);
        x.image();
    }

    private static void promise6About() {
        GoingDark x = at("l1,f2,s3,i4,o9;12");
        for (int light = 0; light < 5; light++) {
            due("6: kind of " + light, x.about(light, 0), light);
        }
        due("6: place", x.about(0, 1), 1);
        due("6: place", x.about(4, 1), 9);
        due("6: lit", x.about(3, 2), 0);
        x.fact(0, true);
        due("6: asked, no", x.ask(3, 0, false), 0);
        due("6: dark for two", x.about(3, 2), 2);
        due("6: dark, so it may not", x.about(3, 3), 0);
        due("6: when lit again", x.about(3, 4), 2);
        due("6: asked once", x.about(3, 5), 1);
        due("6: no once", x.about(3, 6), 1);
        due("6: refused, not asked", x.ask(3, 0, false), STATE);
        due("6: still once", x.about(3, 5), 1);
        x.breath();
        due("6: dark for one", x.about(3, 2), 1);
        x.breath();
        due("6: lit again", x.about(3, 2), 0);
        due("6: may", x.about(3, 3), 1);
        x.ask(3, 0, true);
        due("6: asked twice", x.about(3, 5), 2);
        due("6: no once yet", x.about(3, 6), 1);
        due("6: another's", x.about(2, 5) + x.about(2, 6), 0);
        for (int wild : WILD) {
            due("6: no such light", x.about(wild, 0), UNKNOWN);
            due("6: no such what", x.about(0, wild), OUTSIDE);
            due("6: UNKNOWN first", x.about(wild, wild), UNKNOWN);
        }
        due("6: light 5", x.about(5, 0), UNKNOWN);
        due("6: what 7", x.about(0, 7), OUTSIDE);
        due("6: lost either way", lostEitherWay().about(0, 3), 1);
    }

    private static GoingDark lostEitherWay() {
        GoingDark x = at("l0,l9;01");
        x.ship(5, 0);
        return x;
    }

    private static void promise6When() {
        // light 0 shines on 0 to 4, light 1 on 5 to 9, and a ship goes from 3 to behind 9
        GoingDark x = at("l2,l7;23");
        x.ship(3, 1);
        due("6: may, 0", x.about(0, 3), 0);
        due("6: may, 1", x.about(1, 3), 0);
        due("6: when, 0", x.about(0, 4), 1);
        due("6: when, 1", x.about(1, 4), 6);
        breaths(x, 1);
        due("6: when, 0, later", x.about(0, 4), 0);
        due("6: when, 1, later", x.about(1, 4), 5);
        breaths(x, 5);
        due("6: on 9, when, 1", x.about(1, 4), 0);
        GoingDark y = at("l2,l7;23");
        y.ship(4, 0);
        due("6: never", y.about(0, 4), NONE);
        due("6: at once", y.about(1, 4), 0);
        // lost by the other's dark in these breaths: no more are lost by this one's
        GoingDark z = at("l2,l7;29");
        z.ship(3, 1);
        due("6: dark, no", z.ask(1, 0, false), 0);
        due("6: when, lost by the other's dark", z.about(0, 4), 0);
        due("6: when, the dark one", z.about(1, 4), 9);
        // lost where nothing shines, but behind these breaths: it waits until then
        GoingDark gap = at("l2,l9;11");
        gap.ship(1, 1);
        due("6: when, ahead of a gap", gap.about(0, 4), 2);
        due("6: nothing is changed", z.count(8) + z.count(7), 0);
        // both dark at once lose the ship, one alone doesn't; the dark breaths of one end while it waits
        GoingDark w = at("l3,l3;14");
        w.ship(3, 0);
        due("6: one alone may", w.about(0, 3), 1);
        w.ask(1, 0, false);
        due("6: the last may not", w.about(0, 3), 0);
        due("6: until the other is lit", w.about(0, 4), 4);
    }

    private static void promise7As() {
        GoingDark x = at("l1,f2,s3,i4,o9;12");
        int[][] taken = {{0, -1, -1, -1, -1}, {1, 1, -1, -1, -1}, {2, -1, 2, -1, -1}, {3, -1, -1, 3, -1}, {4, -1, -1, 4, 4}};
        for (int light = 0; light < 5; light++) {
            for (int kind = 0; kind < 5; kind++) {
                due("7: as(" + light + ", " + kind + ")", x.as(light, kind), taken[light][kind]);
            }
        }
        due("7: kind 5", x.as(0, 5), OUTSIDE);
        due("7: light 5", x.as(5, 0), UNKNOWN);
        for (int wild : WILD) {
            due("7: wild light", x.as(wild, wild), UNKNOWN);
            due("7: wild kind", x.as(1, wild), OUTSIDE);
        }
        due("7: no strait", new GoingDark().as(0, 9), UNKNOWN);
    }

    private static void promise8Fact() {
        GoingDark x = at("l5,f0;43");
        due("8: was not", x.fact(0, true), 0);
        due("8: was", x.fact(0, true), 1);
        due("8: fact 3", x.fact(3, true), 0);
        due("8: bits", x.count(4), 9);
        due("8: was, is no more", x.fact(0, false), 1);
        due("8: was not", x.fact(0, false), 0);
        due("8: bits", x.count(4), 8);
        due("8: fact 4", x.fact(4, true), UNKNOWN);
        for (int wild : WILD) {
            due("8: wild", x.fact(wild, true), UNKNOWN);
        }
        due("8: nothing changed", x.count(4), 8);
        due("8: no strait", new GoingDark().fact(3, true), STATE);
        due("8: UNKNOWN first", new GoingDark().fact(4, true), UNKNOWN);
    }

    private static void promise9Ship() {
        GoingDark x = at("l5,f0;43");
        due("9: place 10", x.ship(10, 0), UNKNOWN);
        due("9: course 2", x.ship(0, 2), OUTSIDE);
        due("9: course -2", x.ship(0, -2), OUTSIDE);
        due("9: UNKNOWN first", x.ship(-1, 2), UNKNOWN);
        due("9: 0", x.ship(0, -1), 0);
        due("9: 1", x.ship(9, 1), 1);
        x.breath();
        due("9: 2", x.ship(9, 0), 2);
        due("9: the fourth", x.ship(5, 0), FULL);
        due("9: gone ones count", x.count(6), 1);
        due("9: UNKNOWN ahead of FULL", x.ship(10, 0), UNKNOWN);
        due("9: OUTSIDE ahead of FULL", x.ship(9, 3), OUTSIDE);
        due("9: three", x.count(5), 3);
        GoingDark none = new GoingDark();
        due("9: no strait", none.ship(0, 0), STATE);
        due("9: no strait, UNKNOWN first", none.ship(10, 2), UNKNOWN);
        due("9: no strait, OUTSIDE first", none.ship(9, 2), OUTSIDE);
    }

    private static void promise10ShipOf() {
        GoingDark x = at("l1,l2,l6;23");
        x.ship(3, -1);
        x.ship(4, 0);
        x.ship(9, 1);
        int[][] want = {{3, 0, 0, 2}, {4, 1, 0, 2}, {9, 2, 0, 0}};
        for (int ship = 0; ship < 3; ship++) {
            for (int what = 0; what < 4; what++) {
                due("10: shipOf(" + ship + ", " + what + ")", x.shipOf(ship, what), want[ship][what]);
            }
        }
        x.ask(1, 0, false);
        due("10: one that shone is dark", x.shipOf(0, 3), 1);
        x.ask(2, 0, false);
        due("10: both are dark", x.shipOf(1, 3), 0);
        due("10: one is lost", x.breath(), 1);
        due("10: it went on", x.shipOf(0, 0), 2);
        due("10: lost", x.shipOf(1, 2), 2);
        due("10: where it was", x.shipOf(1, 0), 4);
        due("10: through", x.shipOf(2, 2), 1);
        due("10: where it was", x.shipOf(2, 0), 9);
        due("10: course", x.shipOf(2, 1), 2);
        breaths(x, 2);
        due("10: lit over the lost", x.shipOf(1, 3), 2);
        due("10: no such", x.shipOf(3, 0), UNKNOWN);
        due("10: what 4", x.shipOf(0, 4), OUTSIDE);
        for (int wild : WILD) {
            due("10: wild ship", x.shipOf(wild, wild), UNKNOWN);
            due("10: wild what", x.shipOf(2, wild), OUTSIDE);
        }
        due("10: no strait", new GoingDark().shipOf(0, 9), UNKNOWN);
    }

    private static void promise11Ask() {
        // by kind, on an even and an odd breath: what is said to a true and to a false question
        int[][] says = {{1, 0, 1, 0}, {1, 1, 1, 1}, {1, 0, 1, 0}, {0, 1, 0, 1}, {0, 1, 1, 0}};
        for (int light = 0; light < 5; light++) {
            for (int which = 0; which < 16; which++) {
                GoingDark x = at("l1,f2,s3,i4,o9;13");
                boolean isSo = (which & 4) != 0;
                boolean turned = (which & 8) != 0;
                x.fact(2, isSo);
                breaths(x, which & 3);
                int want = says[light][2 * (which & 1) + (isSo != turned ? 0 : 1)];
                due("11: light " + light + ", case " + which, x.ask(light, 2, turned), want);
                due("11: dark by a no", x.about(light, 2), want == 1 ? 0 : 3);
                due("11: asked", x.about(light, 5), 1);
                due("11: noes", x.about(light, 6), 1 - want);
                due("11: lit", x.count(3), 4 + want);
            }
        }
        GoingDark x = at("i1,f2;13");
        x.fact(0, true);
        due("11: no", x.ask(0, 0, false), 0);
        due("11: dark", x.ask(0, 0, true), STATE);
        due("11: UNKNOWN first", x.ask(0, 4, true), UNKNOWN);
        due("11: light 2", x.ask(2, 0, true), UNKNOWN);
        for (int wild : WILD) {
            due("11: wild light", x.ask(wild, 0, false), UNKNOWN);
            due("11: wild fact", x.ask(1, wild, false), UNKNOWN);
        }
        due("11: no strait", new GoingDark().ask(0, 0, false), UNKNOWN);
        breaths(x, 3);
        due("11: lit again", x.ask(0, 0, true), 1);
    }

    private static void promise11AskSaint() {
        GoingDark x = at("s3,l9;12");
        x.ship(3, 0);
        due("11: a saint that may not", x.ask(0, 0, false), 1);
        due("11: asked", x.about(0, 5), 1);
        due("11: no no", x.about(0, 6), 0);
        due("11: lit", x.about(0, 2), 0);
        due("11: a light goes dark", x.ask(1, 0, false), 0);
        GoingDark y = at("l3,s9;12");
        y.ship(3, 0);
        due("11: a saint that may", y.ask(1, 0, false), 0);
        due("11: a light that should not", y.ask(0, 0, false), 0);
        due("11: a wreck", y.breath(), 1);
        // now it may not; a breath later it might
        GoingDark gap = at("s2,l9;11");
        gap.ship(2, 1);
        due("11: a saint that may not yet", gap.ask(0, 0, false), 1);
        gap.breath();
        due("11: lost either way, so it may", gap.ask(0, 0, false), 0);
        // two saints over one ship: the first goes out, the second may not
        GoingDark z = at("s3,s3;12");
        z.ship(3, 0);
        due("11: the first saint", z.ask(0, 0, false), 0);
        due("11: the second saint", z.ask(1, 0, false), 1);
    }

    private static void promise12Breath() {
        GoingDark x = at("l4,l5;51");
        x.ship(0, -1);
        x.ship(9, 1);
        x.ship(4, 1);
        due("12: none lost", x.breath(), 0);
        due("12: below 0", x.shipOf(0, 2), 1);
        due("12: above 9", x.shipOf(1, 2), 1);
        due("12: on its way", x.shipOf(2, 0), 5);
        due("12: the next breath", x.count(8), 1);
        due("12: at sea", x.count(6), 1);
        GoingDark y = at("l3,f3;01");
        y.ship(3, 0);
        y.ship(2, 1);
        y.ship(3, 1);
        due("12: one leaves the light", y.breath(), 1);
        due("12: it is where it was", y.shipOf(2, 0), 3);
        due("12: lost", y.shipOf(2, 2), 2);
        due("12: one comes into it", y.shipOf(1, 0), 3);
        due("12: then it is lost, too", y.breath(), 1);
        due("12: the dark start hurts nobody", y.shipOf(0, 2), 0);
        GoingDark z = at("l3,l9;12");
        z.ship(3, 0);
        z.ship(2, 0);
        z.ship(8, 0);
        z.ask(0, 0, false);
        due("12: two at once", z.breath(), 2);
        due("12: none again", z.breath(), 0);
        due("12: lit", z.about(0, 2), 0);
        // dark is for as many breaths as told, the last of them too
        GoingDark w = at("l3,l9;12");
        w.ask(0, 0, false);
        w.breath();
        w.ship(3, 0);
        due("12: dark in the second", w.breath(), 1);
        w.ship(3, 0);
        due("12: lit in the third", w.breath(), 0);
        due("12: no strait", new GoingDark().breath(), STATE);
    }

    private static void promise13AtOnce() {
        GoingDark x = at("l3,l3,l3;11");
        due("13: all, with no ship", x.atOnce(0) * 100 + x.atOnce(1), 307);
        x.ship(3, 0);
        due("13: two", x.atOnce(0), 2);
        due("13: the least bits", x.atOnce(1), 3);
        x.ask(0, 0, false);
        due("13: one", x.atOnce(0), 1);
        due("13: of those lit", x.atOnce(1), 2);
        x.ask(1, 0, false);
        due("13: none", x.atOnce(0) * 100 + x.atOnce(1), 0);
        x.ask(2, 0, false);
        due("13: all dark", x.atOnce(0) * 100 + x.atOnce(1), 0);
        // many far ones ahead of few near ones, though their bits are more
        GoingDark y = at("l5,l1,l8;13");
        y.ship(5, 0);
        due("13: two", y.atOnce(0), 2);
        due("13: the greatest", y.atOnce(1), 6);
        due("13: lost either way", lostEitherWay().atOnce(1), 3);
        due("13: what 2", y.atOnce(2), OUTSIDE);
        for (int wild : WILD) {
            due("13: wild", y.atOnce(wild), OUTSIDE);
        }
        due("13: no strait", new GoingDark().atOnce(0), STATE);
        due("13: no strait, OUTSIDE first", new GoingDark().atOnce(2), OUTSIDE);
    }

    private static void promise14Hear() {
        GoingDark x = at("l5,f0;43");
        due("14: light 2", x.hear(2, 0, false, 0, true), UNKNOWN);
        due("14: fact 4", x.hear(0, 4, false, 0, true), UNKNOWN);
        due("14: breath 100", x.hear(0, 0, false, 100, true), OUTSIDE);
        due("14: breath -1", x.hear(0, 0, false, -1, true), OUTSIDE);
        due("14: UNKNOWN first", x.hear(0, 4, false, 100, true), UNKNOWN);
        for (int wild : WILD) {
            due("14: wild light", x.hear(wild, 0, true, 0, true), UNKNOWN);
            due("14: wild fact", x.hear(0, wild, true, 0, true), UNKNOWN);
            due("14: wild breath", x.hear(0, 0, true, wild, true), OUTSIDE);
        }
        due("14: first", x.hear(0, 0, false, 0, true), 1);
        due("14: second", x.hear(1, 3, true, 99, true), 2);
        for (int n = 3; n <= 8; n++) {
            due("14: more", x.hear(0, 0, false, 0, true), n);
        }
        due("14: the ninth", x.hear(0, 0, false, 0, true), FULL);
        due("14: OUTSIDE ahead of FULL", x.hear(0, 0, false, 100, true), OUTSIDE);
        due("14: UNKNOWN ahead of FULL", x.hear(5, 0, false, 0, true), UNKNOWN);
        due("14: eight", x.count(9), 8);
        due("14: asked by it is nobody", x.about(0, 5), 0);
        due("14: no strait", new GoingDark().hear(0, 0, false, 100, true), UNKNOWN);
    }

    private static void promise15Forget() {
        GoingDark x = at("l5,f0;43");
        due("15: nothing", x.forget(), 0);
        x.hear(0, 0, false, 0, true);
        x.hear(0, 1, false, 0, true);
        due("15: two", x.forget(), 2);
        due("15: none", x.count(9), 0);
        due("15: all worlds", x.worlds(0), 16);
        due("15: again", x.forget(), 0);
        due("15: heard anew", x.hear(0, 0, false, 0, true), 1);
        due("15: no strait", new GoingDark().forget(), 0);
    }

    private static int worldsHeard(int light, boolean turned, int breath, boolean yes) {
        GoingDark x = at("l1,f2,s3,i4,o9;13");
        x.hear(light, 1, turned, breath, yes);
        return x.worlds(0) == 16 ? 16 : x.worlds(0) == 0 ? 0 : x.worlds(2) == 2 ? 1 : -1;
    }

    private static void promise16Worlds() {
        // 1: fact 1 is so, -1: it is not, 16: nothing is told, 0: there are no worlds
        int[][] told = {{1, -1, 1, -1}, {16, 0, 16, 0}, {16, -1, 16, -1}, {-1, 1, -1, 1}, {-1, 1, 1, -1}};
        for (int light = 0; light < 5; light++) {
            for (int breath = 98; breath <= 99; breath++) {
                int yes = told[light][2 * (breath & 1)];
                int no = told[light][2 * (breath & 1) + 1];
                due("16: yes of " + light, worldsHeard(light, false, breath, true), yes);
                due("16: no of " + light, worldsHeard(light, false, breath, false), no);
                due("16: turned, yes of " + light, worldsHeard(light, true, breath, true), yes == 16 ? yes : -yes);
                due("16: turned, no of " + light, worldsHeard(light, true, breath, false), -no);
            }
        }
        GoingDark x = at("l5,f0;43");
        due("16: the least of all", x.worlds(1), 0);
        due("16: so in all", x.worlds(2), 0);
        due("16: so in some", x.worlds(3), 15);
        x.hear(0, 1, false, 0, true);
        x.hear(0, 3, true, 0, true);
        due("16: four", x.worlds(0), 4);
        due("16: the least", x.worlds(1), 2);
        due("16: so in all", x.worlds(2), 2);
        due("16: so in some", x.worlds(3), 7);
        x.hear(0, 3, false, 0, true);
        due("16: none", x.worlds(0), 0);
        for (int what = 1; what <= 3; what++) {
            due("16: NONE " + what, x.worlds(what), NONE);
        }
        due("16: what 4", x.worlds(4), OUTSIDE);
        for (int wild : WILD) {
            due("16: wild", x.worlds(wild), OUTSIDE);
        }
        due("16: no strait", new GoingDark().worlds(3), STATE);
        due("16: no strait, OUTSIDE first", new GoingDark().worlds(4), OUTSIDE);
    }

    private static void promise17Next() {
        GoingDark x = at("f2,l5,s6;43");
        due("17: a fire tells nothing", x.next(), 8);
        x.hear(1, 0, false, 0, true);
        due("17: fact 0 is known", x.next(), 10);
        x.hear(1, 1, false, 0, true);
        due("17: fact 1 is known", x.next(), 12);
        x.ask(1, 3, false);
        due("17: light 1 is dark, a saint as a light", x.next(), 20);
        x.ask(2, 3, false);
        due("17: only the fire is lit", x.next(), 0);
        x.hear(1, 2, false, 0, true);
        x.hear(1, 3, true, 0, true);
        due("17: one world", x.next(), 0);
        breaths(x, 3);
        due("17: one world, the least", x.next(), 0);
        x.hear(1, 3, false, 0, true);
        due("17: no worlds", x.next(), NONE);
        GoingDark five = at("f1,f2,f3,f4,l5;43");
        due("17: the last one", five.next(), 32);
        for (int fact = 0; fact < 3; fact++) {
            five.hear(4, fact, false, 0, true);
        }
        due("17: the last fact", five.next(), 38);
        GoingDark y = at("l5,i0;43");
        y.ask(0, 0, false);
        due("17: a liar tells as well", y.next(), 8);
        y.ask(1, 0, true);
        due("17: none is lit", y.next(), NONE);
        due("17: no strait", new GoingDark().next(), STATE);
    }

    private static void promise18Kinds() {
        GoingDark x = at("l5,f0;43");
        due("18: any", x.kinds(0), 31);
        x.hear(0, 0, false, 1, false);
        due("18: no fire", x.kinds(0), 29);
        x.hear(0, 0, false, 2, false);
        due("18: no fool", x.kinds(0), 13);
        x.hear(0, 0, true, 2, false);
        due("18: none", x.kinds(0), 0);
        due("18: none, by another", x.kinds(1), 0);
        GoingDark y = at("l5,f0;43");
        y.hear(1, 2, true, 1, true);
        y.hear(1, 2, false, 1, true);
        due("18: fire, saint", y.kinds(1), 6);
        due("18: the other is free", y.kinds(0), 31);
        y.hear(0, 2, false, 0, true);
        y.hear(1, 2, true, 0, false);
        due("18: saint alone", y.kinds(1), 4);
        due("18: light 2", y.kinds(2), UNKNOWN);
        for (int wild : WILD) {
            due("18: wild", y.kinds(wild), UNKNOWN);
        }
        due("18: no strait", new GoingDark().kinds(0), UNKNOWN);
    }

    private static void promise19Nights() {
        // from seed 0: 12345 (light 0), 1406932606 (fact 0), 654583775 (plain)
        GoingDark x = at("l3,l9;11");
        x.ship(3, 0);
        due("19: lost", x.nights(1, 0, 0), 1);
        due("19: noes", x.nights(1, 0, 1), 1);
        due("19: the seed", x.nights(1, 0, 2), 654583775);
        due("19: nothing is changed", x.count(8) + x.count(7) + x.about(0, 5) + x.about(0, 6) + x.about(0, 2), 0);
        x.fact(0, true);
        due("19: true, none lost", x.nights(1, 0, 0), 0);
        due("19: true, no no", x.nights(1, 0, 1), 0);
        x.fact(0, false);
        x.ask(0, 0, false);
        due("19: dark, one draw", x.nights(1, 0, 2), 12345);
        due("19: dark, no no", x.nights(1, 0, 1), 0);
        due("19: dark, lost", x.nights(1, 0, 0), 1);
        GoingDark saint = at("s3,l9;11");
        saint.ship(3, 0);
        due("19: a saint may not", saint.nights(1, 0, 1), 0);
        due("19: breaths 40, the greatest seed", x.nights(40, Integer.MAX_VALUE, 2) >= 0 ? 1 : 0, 1);
        for (int wild : WILD) {
            due("19: wild breaths", x.nights(wild, 0, 0), OUTSIDE);
            due("19: wild what", x.nights(1, 0, wild), OUTSIDE);
        }
        due("19: breaths 0", x.nights(0, 0, 0), OUTSIDE);
        due("19: breaths 41", x.nights(41, 0, 0), OUTSIDE);
        due("19: seed -1", x.nights(1, -1, 0), OUTSIDE);
        due("19: what 3", x.nights(1, 0, 3), OUTSIDE);
        due("19: no strait", new GoingDark().nights(1, 0, 0), STATE);
        due("19: no strait, OUTSIDE first", new GoingDark().nights(0, 0, 0), OUTSIDE);
    }

    private static void promise20Image() {
        GoingDark x = new GoingDark();
        due("20: no strait", x.image(), STATE);
        write(x, "l3,l9;13");
        x.strait();
        due("20: at first", x.image(), 0);
        breaths(x, 2);
        due("20: later", x.image(), 2);
        breaths(x, 3);
        due("20: the latest", x.restore(), 2);
        due("20: it is kept yet", x.restore(), 2);
    }

    private static void promise21Restore() {
        GoingDark x = at("s1,i4,o6,l9;23");
        due("21: none kept", x.restore(), STATE);
        stir(x);
        long then = x.digest();
        x.fact(0, true);
        x.ship(9, -1);
        x.ask(2, 3, true);
        x.ask(0, 3, false);
        x.hear(3, 2, false, 1, true);
        breaths(x, 4);
        check.holds("21: another", x.digest() != then);
        due("21: restored", x.restore(), 1);
        due("21: all as it was", x.digest() == then ? 1 : 0, 1);
        due("21: the third ship is gone", x.shipOf(2, 0), UNKNOWN);
        due("21: and comes again", x.ship(0, 0), 2);
        x.restore();
        x.forget();
        x.hear(3, 2, true, 2, true);
        x.ship(0, 1);
        x.restore();
        due("21: heard is back", x.worlds(0), 8);
        due("21: heard is back, by whom of what", x.worlds(3), 14);
        due("21: heard is back", x.count(9), 1);
        due("21: again", x.ship(7, -1), 2);
        due("21: its course", x.shipOf(2, 1), 0);
        x.restore();
        write(x, "l3");
        x.restore();
        due("21: the page is not in it", x.count(10), 2);
        x.blank();
        write(x, "s1,i4,o6,l9;23");
        x.strait();
        due("21: another strait, of the same text", x.restore(), STATE);
        x.image();
        due("21: a new image", x.restore(), 0);
        due("21: straits read", x.count(11), 2);
        due("21: no strait", new GoingDark().restore(), STATE);
    }

    private static void promise22Count() {
        GoingDark x = at("s1,i4,o6,l9;23");
        stir(x);
        write(x, "l3,");
        int[] want = {4, 2, 3, 3, 2, 2, 2, 0, 1, 1, 3, 1};
        for (int what = 0; what < 12; what++) {
            due("22: count(" + what + ")", x.count(what), want[what]);
        }
        GoingDark y = at("l3,f3;01");
        y.ship(9, 1);
        y.ship(5, 0);
        y.ship(3, 0);
        y.breath();
        due("22: ships", y.count(5), 3);
        due("22: at sea", y.count(6), 1);
        due("22: lost", y.count(7), 1);
        due("22: reach 0", y.count(1), 0);
        due("22: what 12", x.count(12), OUTSIDE);
        for (int wild : WILD) {
            due("22: wild", x.count(wild), OUTSIDE);
        }
    }

    private static void promise23Digest() {
        long empty = 877;
        for (int n = 0; n < 12; n++) {
            empty *= 31;
        }
        GoingDark none = new GoingDark();
        due("23: no strait", none.digest(), empty);
        none.letter('x');
        due("23: a letter", none.digest(), foldOf(none, "x"));
        GoingDark x = at("s1,i4,o6,l9;23");
        due("23: new", x.digest(), foldOf(x, ""));
        stir(x);
        write(x, "l3,f");
        due("23: stirred", x.digest(), foldOf(x, "l3,f"));
        due("23: it changes nothing", x.digest(), foldOf(x, "l3,f"));
        GoingDark five = at("o3,o3,i3,l3,s3;31");
        five.ship(0, 1);
        five.hear(0, 0, false, 0, true);
        five.hear(0, 0, true, 0, true);
        due("23: no worlds", five.digest(), foldOf(five, ""));
    }

    private static long foldOf(GoingDark x, String letters) {
        long h = 877;
        for (int light = 0; light < x.count(0); light++) {
            for (int what = 0; what <= 6; what++) {
                h = 31 * h + x.about(light, what);
            }
            h = 31 * h + x.kinds(light);
        }
        for (int ship = 0; ship < x.count(5); ship++) {
            for (int what = 0; what <= 3; what++) {
                h = 31 * h + x.shipOf(ship, what);
            }
        }
        if (x.count(0) > 0) {
            h = 31 * (31 * h + x.atOnce(0)) + x.atOnce(1);
            for (int what = 0; what <= 3; what++) {
                h = 31 * h + x.worlds(what);
            }
            h = 31 * h + x.next();
        }
        for (int i = 0; i < letters.length(); i++) {
            h = 31 * h + letters.charAt(i);
        }
        for (int what = 0; what <= 11; what++) {
            h = 31 * h + x.count(what);
        }
        return h;
    }
}
