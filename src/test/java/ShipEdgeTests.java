/** Boundary cases of promises 9 to 13: ships, questions, breaths, how many at once. */
public final class ShipEdgeTests extends EdgeSuite {
    public static void main(String[] args) {
        ShipEdgeTests all = new ShipEdgeTests();
        all.shipRefused();
        all.ship();
        all.shipOfRefused();
        all.shipOf();
        all.askRefused();
        all.askByKind();
        all.askDark();
        all.askSaint();
        all.breathThrough();
        all.breathLost();
        all.breathDark();
        all.atOnceRefused();
        all.atOnce();
        all.end(9, 13);
    }

    // ---- promise 9

    private void shipRefused() {
        edge(9, "UNKNOWN: PLACE -1", () -> refused(UNKNOWN, x -> x.ship(-1, 0), Scene.ALL));
        edge(9, "UNKNOWN: PLACE 10", () -> refused(UNKNOWN, x -> x.ship(10, 0), Scene.ALL));
        edge(9, "UNKNOWN: PLACES far away", () -> {
            refused(UNKNOWN, x -> x.ship(MAX, 1), Scene.ALL);
            refused(UNKNOWN, x -> x.ship(MIN, -1), Scene.ALL);
        });
        edge(9, "OUTSIDE: COURSE -2", () -> refused(OUTSIDE, x -> x.ship(0, -2), Scene.ALL));
        edge(9, "OUTSIDE: COURSE 2", () -> refused(OUTSIDE, x -> x.ship(9, 2), Scene.ALL));
        edge(9, "OUTSIDE: COURSES far away", () -> {
            refused(OUTSIDE, x -> x.ship(5, MAX), Scene.ALL);
            refused(OUTSIDE, x -> x.ship(5, MIN), Scene.ALL);
        });
        edge(9, "STATE: no STRAIT", () -> {
            refused(STATE, x -> x.ship(0, -1), Scene.WITHOUT_STRAIT);
            refused(STATE, x -> x.ship(9, 1), Scene.WITHOUT_STRAIT);
        });
        edge(9, "FULL: the fourth", () -> refused(FULL, x -> x.ship(5, 0), Scene.FILLED));
        edge(9, "UNKNOWN is told ahead of OUTSIDE", () -> {
            refused(UNKNOWN, x -> x.ship(-1, -2), Scene.ALL);
            refused(UNKNOWN, x -> x.ship(10, 2), Scene.ALL);
        });
        edge(9, "UNKNOWN is told ahead of STATE", () -> refused(UNKNOWN, x -> x.ship(10, 0), Scene.WITHOUT_STRAIT));
        edge(9, "UNKNOWN is told ahead of FULL", () -> refused(UNKNOWN, x -> x.ship(10, 0), Scene.FILLED));
        edge(9, "OUTSIDE is told ahead of STATE", () -> refused(OUTSIDE, x -> x.ship(0, 2), Scene.WITHOUT_STRAIT));
        edge(9, "OUTSIDE is told ahead of FULL", () -> refused(OUTSIDE, x -> x.ship(0, 2), Scene.FILLED));
    }

    private void ship() {
        edge(9, "PLACE 0 is the least", () -> {
            GoingDark x = Scene.FRESH.make();
            due("ship", x.ship(0, 0), 0);
            due("PLACE", x.shipOf(0, 0), 0);
        });
        edge(9, "PLACE 9 is the greatest", () -> {
            GoingDark x = Scene.FRESH.make();
            due("ship", x.ship(9, 0), 0);
            due("PLACE", x.shipOf(0, 0), 9);
        });
        edge(9, "COURSE -1 is the least", () -> due("ship", Scene.FRESH.make().ship(5, -1), 0));
        edge(9, "COURSE 1 is the greatest", () -> due("ship", Scene.FRESH.make().ship(5, 1), 0));
        edge(9, "three at most, numbered from 0", () -> {
            GoingDark x = Scene.FRESH.make();
            for (int n = 0; n < 3; n++) {
                due("SHIP " + n, x.ship(5, 0), n);
                due("SHIPS", x.count(5), n + 1);
            }
            due("one more", x.ship(5, 0), FULL);
            due("SHIPS", x.count(5), 3);
        });
        edge(9, "FULL: those that are THROUGH are SHIPS yet", () -> {
            GoingDark x = at("l4,l5;91");
            for (int n = 0; n < 3; n++) {
                x.ship(9, 1);
            }
            x.breath();
            due("at sea", x.count(6), 0);
            due("one more", x.ship(5, 0), FULL);
        });
        edge(9, "FULL: those that are LOST are SHIPS yet", () -> {
            GoingDark x = at("l4,l5;01");
            for (int n = 0; n < 3; n++) {
                x.ship(9, 0);
            }
            due("LOST", x.breath(), 3);
            due("one more", x.ship(5, 0), FULL);
        });
        edge(9, "where nothing shines it is at sea until a BREATH goes by", () -> {
            GoingDark x = at("l4,l5;01");
            x.ship(9, 0);
            due("how it is", x.shipOf(0, 2), 0);
            due("LOST", x.count(7), 0);
        });
        edge(9, "one that comes behind a restore() has nothing of one that is gone by it", () -> {
            GoingDark x = at("l4,l5;01");
            x.image();
            x.ship(9, 1);
            x.ship(0, 0);
            x.breath();
            x.restore();
            due("its number", x.ship(4, 0), 0);
            due("PLACE", x.shipOf(0, 0), 4);
            due("COURSE", x.shipOf(0, 1), 1);
            due("how it is", x.shipOf(0, 2), 0);
            due("its number", x.ship(5, -1), 1);
            due("how it is", x.shipOf(1, 2), 0);
        });
    }

    // ---- promise 10

    private void shipOfRefused() {
        edge(10, "UNKNOWN: SHIP -1", () -> refused(UNKNOWN, x -> x.shipOf(-1, 0), Scene.ALL));
        edge(10, "UNKNOWN: the number behind the last SHIP", () -> {
            refused(UNKNOWN, x -> x.shipOf(0, 0), Scene.FRESH);
            refused(UNKNOWN, x -> x.shipOf(1, 0), Scene.DARKENED, Scene.BEWILDERED);
            refused(UNKNOWN, x -> x.shipOf(2, 0), Scene.BUSY);
            refused(UNKNOWN, x -> x.shipOf(3, 0), Scene.FILLED);
        });
        edge(10, "UNKNOWN: numbers far away", () -> {
            refused(UNKNOWN, x -> x.shipOf(MAX, 1), Scene.ALL);
            refused(UNKNOWN, x -> x.shipOf(MIN, 3), Scene.ALL);
        });
        edge(10, "UNKNOWN: no STRAIT", () -> refused(UNKNOWN, x -> x.shipOf(0, 0), Scene.WITHOUT_STRAIT));
        edge(10, "UNKNOWN: one that is gone by restore()", () -> {
            GoingDark x = Scene.BUSY.make();
            due("there", x.shipOf(1, 1), 2);
            x.restore();
            due("gone", x.shipOf(1, 1), UNKNOWN);
            due("kept", x.shipOf(0, 1), 1);
        });
        edge(10, "UNKNOWN: one of a STRAIT that is gone", () -> {
            GoingDark x = Scene.FILLED.make();
            x.blank();
            write(x, "l5,f0;43");
            x.strait();
            due("gone", x.shipOf(0, 0), UNKNOWN);
        });
        edge(10, "OUTSIDE: what -1", () -> refused(OUTSIDE, x -> x.shipOf(0, -1), Scene.BUSY, Scene.FILLED, Scene.DARKENED));
        edge(10, "OUTSIDE: what 4", () -> refused(OUTSIDE, x -> x.shipOf(0, 4), Scene.BUSY, Scene.FILLED, Scene.DARKENED));
        edge(10, "OUTSIDE: what far away", () -> {
            refused(OUTSIDE, x -> x.shipOf(0, MAX), Scene.BUSY, Scene.FILLED);
            refused(OUTSIDE, x -> x.shipOf(0, MIN), Scene.BUSY, Scene.FILLED);
        });
        edge(10, "UNKNOWN is told ahead of OUTSIDE", () -> {
            refused(UNKNOWN, x -> x.shipOf(-1, -1), Scene.ALL);
            refused(UNKNOWN, x -> x.shipOf(3, 4), Scene.ALL);
            refused(UNKNOWN, x -> x.shipOf(0, 4), Scene.NEW, Scene.FRESH);
        });
        for (int what = 0; what <= 3; what++) {
            int one = what;
            edge(10, "what " + what + " changes nothing", () -> changesNothing(x -> x.shipOf(0, one), Scene.WITH_STRAIT));
        }
    }

    private void shipOf() {
        edge(10, "COURSE, and 1: 0, 1, 2", () -> {
            GoingDark x = Scene.FRESH.make();
            for (int course = -1; course <= 1; course++) {
                x.ship(5, course);
                due("COURSE " + course, x.shipOf(course + 1, 1), course + 1);
            }
        });
        edge(10, "the last SHIP is known", () -> due("at sea", Scene.FILLED.make().shipOf(2, 2), 0));
        edge(10, "THROUGH: where it was ahead of that", () -> {
            GoingDark x = Scene.FILLED.make();
            due("how it is", x.shipOf(0, 2), 1);
            due("PLACE", x.shipOf(0, 0), 0);
            due("COURSE, and 1", x.shipOf(0, 1), 0);
        });
        edge(10, "LOST: where it was ahead of that", () -> {
            GoingDark x = at("l3,f3;01");
            x.ship(3, 1);
            x.breath();
            due("how it is", x.shipOf(0, 2), 2);
            due("PLACE", x.shipOf(0, 0), 3);
            due("COURSE, and 1", x.shipOf(0, 1), 2);
        });
        for (int place = 0; place <= 9; place++) {
            int one = place;
            edge(10, "REACH 2 of a LIGHT on 4 and one on 5, PLACE " + place, () -> {
                GoingDark x = at("l4,l5;21");
                x.ship(one, 0);
                int first = one >= 2 && one <= 6 ? 1 : 0;
                int second = one >= 3 && one <= 7 ? 1 : 0;
                due("LIGHTS over it", x.shipOf(0, 3), first + second);
            });
        }
        edge(10, "no LIGHT shines there: 0", () -> {
            GoingDark x = at("l4,l5;01");
            x.ship(3, 0);
            due("LIGHTS over it", x.shipOf(0, 3), 0);
        });
        edge(10, "all five shine there", () -> {
            GoingDark x = at("l0,f9,s5,i3,o7;91");
            x.ship(0, 0);
            x.ship(9, 0);
            due("over 0", x.shipOf(0, 3), 5);
            due("over 9", x.shipOf(1, 3), 5);
        });
        edge(10, "one that is dark does not shine, and does when lit again", () -> {
            GoingDark x = at("l4,l5;21");
            x.ship(4, 0);
            x.ask(0, 0, false);
            due("dark", x.shipOf(0, 3), 1);
            x.breath();
            due("lit again", x.shipOf(0, 3), 2);
        });
        edge(10, "all are dark: 0", () -> due("LIGHTS over it", Scene.DARKENED.make().shipOf(0, 3), 0));
        edge(10, "over the PLACE where one was LOST or went THROUGH", () -> {
            GoingDark x = at("l4,l9;01");
            x.ship(4, 1);
            x.ship(9, 1);
            x.breath();
            due("LOST", x.shipOf(0, 2), 2);
            due("over it", x.shipOf(0, 3), 1);
            due("THROUGH", x.shipOf(1, 2), 1);
            due("over it", x.shipOf(1, 3), 1);
        });
    }

    // ---- promise 11

    private void askRefused() {
        edge(11, "UNKNOWN: LIGHT -1", () -> refused(UNKNOWN, x -> x.ask(-1, 0, false), Scene.ALL));
        edge(11, "UNKNOWN: the number behind the last LIGHT", () -> {
            refused(UNKNOWN, x -> x.ask(5, 0, false), Scene.FRESH, Scene.BUSY);
            refused(UNKNOWN, x -> x.ask(3, 0, false), Scene.FILLED, Scene.DARKENED, Scene.BEWILDERED);
        });
        edge(11, "UNKNOWN: LIGHTS far away", () -> {
            refused(UNKNOWN, x -> x.ask(MAX, 0, true), Scene.ALL);
            refused(UNKNOWN, x -> x.ask(MIN, 0, true), Scene.ALL);
        });
        edge(11, "UNKNOWN: no STRAIT", () -> refused(UNKNOWN, x -> x.ask(0, 0, false), Scene.WITHOUT_STRAIT));
        edge(11, "UNKNOWN: FACT -1", () -> refused(UNKNOWN, x -> x.ask(0, -1, false), Scene.ALL));
        edge(11, "UNKNOWN: FACT 4", () -> refused(UNKNOWN, x -> x.ask(0, 4, false), Scene.ALL));
        edge(11, "UNKNOWN: FACTS far away", () -> {
            refused(UNKNOWN, x -> x.ask(1, MAX, true), Scene.ALL);
            refused(UNKNOWN, x -> x.ask(1, MIN, true), Scene.ALL);
            refused(UNKNOWN, x -> x.ask(0, 32, false), Scene.ALL);
        });
        edge(11, "STATE: it is dark", () -> {
            for (int light = 0; light < 3; light++) {
                int one = light;
                refused(STATE, x -> x.ask(one, 0, false), Scene.DARKENED);
                refused(STATE, x -> x.ask(one, 3, true), Scene.DARKENED);
            }
        });
        edge(11, "UNKNOWN is told ahead of STATE", () -> {
            refused(UNKNOWN, x -> x.ask(0, 4, false), Scene.DARKENED);
            refused(UNKNOWN, x -> x.ask(0, -1, true), Scene.DARKENED);
        });
    }

    private void says(int promise, String words, int light, int fact, boolean turned, int breath, int want) {
        edge(promise, words, () -> {
            GoingDark x = at("l1,f2,s3,i4,o9;12");
            x.fact(1, true);
            breaths(x, breath);
            due("ask", x.ask(light, fact, turned), want);
            due("dark for", x.about(light, 2), want == 1 ? 0 : 2);
            due("ASKED", x.about(light, 5), 1);
            due("no", x.about(light, 6), 1 - want);
        });
    }

    private void askByKind() {
        says(11, "a LIGHT: it is TRUE that it is so", 0, 1, false, 0, 1);
        says(11, "a LIGHT: it is not TRUE that it is so", 0, 0, false, 0, 0);
        says(11, "a LIGHT: TURNED, it is TRUE that it is not", 0, 0, true, 0, 1);
        says(11, "a LIGHT: TURNED, it is not TRUE that it is not", 0, 1, true, 0, 0);
        says(11, "a LIGHT: of FACT 3, the last", 0, 3, true, 0, 1);
        says(11, "a FIRE: yes to what is TRUE", 1, 1, false, 0, 1);
        says(11, "a FIRE: yes to what is not TRUE", 1, 0, false, 0, 1);
        says(11, "a FIRE: yes to what is not TRUE, TURNED", 1, 1, true, 1, 1);
        says(11, "a SAINT that may: as a LIGHT, yes", 2, 1, false, 0, 1);
        says(11, "a SAINT that may: as a LIGHT, no", 2, 0, false, 0, 0);
        says(11, "a LIAR: no to what is TRUE", 3, 1, false, 0, 0);
        says(11, "a LIAR: yes to what is not", 3, 0, false, 0, 1);
        says(11, "a LIAR: TURNED", 3, 0, true, 0, 0);
        says(11, "a LIAR: on odd BREATHS, too", 3, 1, false, 1, 0);
        says(11, "a FOOL on BREATH 0: as a LIAR, no", 4, 1, false, 0, 0);
        says(11, "a FOOL on BREATH 0: as a LIAR, yes", 4, 0, false, 0, 1);
        says(11, "a FOOL on BREATH 1: as a LIGHT, yes", 4, 1, false, 1, 1);
        says(11, "a FOOL on BREATH 1: as a LIGHT, no", 4, 0, false, 1, 0);
        says(11, "a FOOL on BREATH 2: as a LIAR", 4, 1, false, 2, 0);
        says(11, "a FOOL on BREATH 101: as a LIGHT", 4, 1, false, 101, 1);
        says(11, "a FOOL on BREATH 400: as a LIAR", 4, 1, false, 400, 0);
    }

    private void askDark() {
        for (int dark = 1; dark <= 9; dark += 4) {
            int many = dark;
            edge(11, "who says no is dark for DARK BREATHS, DARK " + dark, () -> {
                GoingDark x = at("l1,l9;1" + many);
                x.ask(0, 0, false);
                for (int gone = 0; gone < many; gone++) {
                    due("dark behind " + gone, x.ask(0, 0, true), STATE);
                    x.breath();
                }
                due("lit", x.ask(0, 0, true), 1);
            });
        }
        edge(11, "it is dark from the question on: ahead of the next BREATH, too", () -> {
            GoingDark x = at("l1,l9;11");
            x.ask(0, 0, false);
            due("lit", x.count(3), 1);
            due("again", x.ask(0, 0, false), STATE);
        });
        edge(11, "who says yes can be ASKED again", () -> {
            GoingDark x = at("l1,l9;11");
            due("yes", x.ask(0, 0, true), 1);
            due("yes", x.ask(0, 0, true), 1);
            due("ASKED", x.about(0, 5), 2);
        });
        edge(11, "a LIGHT goes dark though it is a wreck", () -> {
            GoingDark x = at("l3,l9;01");
            x.ship(3, 0);
            due("may", x.about(0, 3), 0);
            due("no", x.ask(0, 0, false), 0);
            due("LOST", x.breath(), 1);
        });
        edge(11, "a question is no BREATH, and none is HEARD by it", () -> {
            GoingDark x = at("l3,l9;01");
            x.ask(0, 0, false);
            due("BREATH", x.count(8), 0);
            due("HEARD", x.count(9), 0);
        });
    }

    private void askSaint() {
        edge(11, "a SAINT: yes if it may not go dark now", () -> {
            GoingDark x = at("s3,l9;01");
            x.ship(3, 0);
            due("ask", x.ask(0, 0, false), 1);
            due("lit", x.about(0, 2), 0);
            due("ASKED", x.about(0, 5), 1);
            due("no", x.about(0, 6), 0);
            due("LOST", x.breath(), 0);
        });
        edge(11, "a SAINT: yes to what is TRUE, though it may go dark", () -> due("ask", at("s3,l9;01").ask(0, 0, true), 1));
        edge(11, "a SAINT: yes to what is TRUE, and it may not", () -> {
            GoingDark x = at("s3,l9;01");
            x.ship(3, 0);
            due("ask", x.ask(0, 0, true), 1);
        });
        edge(11, "a SAINT: no, if the SHIP is LOST either way", () -> {
            GoingDark x = at("s3,l9;01");
            x.ship(5, 0);
            due("ask", x.ask(0, 0, false), 0);
        });
        edge(11, "a SAINT: no, if it is LOST behind the next DARK BREATHS alone", () -> {
            GoingDark x = at("l2,s7;24");
            x.ship(0, 1);
            due("ask", x.ask(1, 0, false), 0);
            GoingDark y = at("l2,s7;25");
            y.ship(0, 1);
            due("in the last of them", y.ask(1, 0, false), 1);
        });
        edge(11, "a SAINT: the second of two over a SHIP may not, and may when the first is lit again", () -> {
            GoingDark x = at("s3,s3;02");
            x.ship(3, 0);
            due("the first", x.ask(0, 0, false), 0);
            due("the second", x.ask(1, 0, false), 1);
            breaths(x, 2);
            due("behind DARK BREATHS", x.ask(1, 0, false), 0);
            due("the first then", x.ask(0, 0, false), 1);
        });
        edge(11, "a LIAR and a FOOL are no SAINTS", () -> {
            GoingDark x = at("i3,o9;01");
            x.fact(0, true);
            x.ship(3, 0);
            x.ship(9, 0);
            due("LIAR", x.ask(0, 0, false), 0);
            due("FOOL", x.ask(1, 0, false), 0);
            due("LOST", x.breath(), 2);
        });
    }

    // ---- promise 12

    private void breathThrough() {
        edge(12, "STATE: no STRAIT", () -> refused(STATE, GoingDark::breath, Scene.WITHOUT_STRAIT));
        edge(12, "below PLACE 0 it is THROUGH", () -> goes("l4,l5;91", 0, -1, 0, 1, 0));
        edge(12, "to PLACE 0 it is at sea", () -> goes("l4,l5;91", 1, -1, 0, 0, 0));
        edge(12, "above PLACE 9 it is THROUGH", () -> goes("l4,l5;91", 9, 1, 9, 1, 0));
        edge(12, "to PLACE 9 it is at sea", () -> goes("l4,l5;91", 8, 1, 9, 0, 0));
        edge(12, "COURSE 0 on PLACE 0 stays", () -> goes("l4,l5;91", 0, 0, 0, 0, 0));
        edge(12, "COURSE 0 on PLACE 9 stays", () -> goes("l4,l5;91", 9, 0, 9, 0, 0));
        edge(12, "THROUGH, not LOST, where nothing shines, below", () -> goes("l4,l5;01", 0, -1, 0, 1, 0));
        edge(12, "THROUGH, not LOST, where nothing shines, above", () -> goes("l4,l5;01", 9, 1, 9, 1, 0));
        edge(12, "one that is THROUGH stays so", () -> {
            GoingDark x = at("l4,l5;01");
            x.ship(0, -1);
            x.ship(9, 1);
            breaths(x, 5);
            due("how it is", x.shipOf(0, 2), 1);
            due("PLACE", x.shipOf(0, 0), 0);
            due("how it is", x.shipOf(1, 2), 1);
            due("PLACE", x.shipOf(1, 0), 9);
            due("LOST", x.count(7), 0);
        });
        edge(12, "all the way up: at sea for nine BREATHS, THROUGH by the tenth", () -> {
            GoingDark x = at("l4,l5;91");
            x.ship(0, 1);
            for (int gone = 1; gone <= 9; gone++) {
                x.breath();
                due("PLACE behind " + gone, x.shipOf(0, 0), gone);
                due("at sea behind " + gone, x.shipOf(0, 2), 0);
            }
            x.breath();
            due("THROUGH", x.shipOf(0, 2), 1);
        });
        edge(12, "it is the next BREATH, with no SHIP, too", () -> {
            GoingDark x = Scene.FRESH.make();
            due("LOST", x.breath(), 0);
            due("BREATH", x.count(8), 1);
        });
    }

    private void goes(String text, int place, int course, int to, int how, int lost) {
        GoingDark x = at(text);
        x.ship(place, course);
        due("LOST", x.breath(), lost);
        due("PLACE", x.shipOf(0, 0), to);
        due("how it is", x.shipOf(0, 2), how);
        due("at sea", x.count(6), how == 0 ? 1 : 0);
        due("BREATH", x.count(8), 1);
    }

    private void breathLost() {
        edge(12, "REACH as far as it goes, upper side", () -> goes("l4,l4;21", 5, 1, 6, 0, 0));
        edge(12, "one more than REACH, upper side: LOST", () -> goes("l4,l4;21", 6, 1, 6, 2, 1));
        edge(12, "REACH as far as it goes, lower side", () -> goes("l4,l4;21", 3, -1, 2, 0, 0));
        edge(12, "one more than REACH, lower side: LOST", () -> goes("l4,l4;21", 2, -1, 2, 2, 1));
        edge(12, "there, not where it was: out of the dark into the light", () -> goes("l4,l4;01", 3, 1, 4, 0, 0));
        edge(12, "there, not where it was: out of the light into the dark", () -> goes("l4,l4;01", 4, 1, 4, 2, 1));
        edge(12, "a LIGHT on PLACE 0 with REACH 9 shines on 9", () -> goes("l0,l0;91", 9, 0, 9, 0, 0));
        edge(12, "a LIGHT on PLACE 0 with REACH 8 does not", () -> goes("l0,l0;81", 9, 0, 9, 2, 1));
        for (int many = 0; many <= 3; many++) {
            int lost = many;
            edge(12, "how many are LOST: " + many, () -> {
                GoingDark x = at("l4,l4;01");
                for (int n = 0; n < 3; n++) {
                    x.ship(n < lost ? 7 : 4, 0);
                }
                due("LOST by it", x.breath(), lost);
                due("LOST", x.count(7), lost);
                due("none again", x.breath(), 0);
                due("LOST", x.count(7), lost);
            });
        }
        edge(12, "those LOST by this BREATH alone", () -> {
            GoingDark x = at("l4,l4;11");
            x.ship(4, 1);
            x.ship(5, 1);
            due("the first BREATH", x.breath(), 1);
            due("the second BREATH", x.breath(), 1);
            due("the third BREATH", x.breath(), 0);
            due("LOST in all", x.count(7), 2);
        });
        edge(12, "one that is LOST stays so, and goes no more", () -> {
            GoingDark x = at("l4,l6;01");
            x.ship(4, 1);
            breaths(x, 4);
            due("how it is", x.shipOf(0, 2), 2);
            due("PLACE", x.shipOf(0, 0), 4);
        });
    }

    private void breathDark() {
        edge(12, "dark by none: it is lit, and no less", () -> {
            GoingDark x = at("l3,l9;01");
            breaths(x, 3);
            due("dark for", x.about(0, 2), 0);
            due("lit", x.count(3), 2);
        });
        edge(12, "SHIPS go ahead of that: LOST by the BREATH in which it is lit again", () -> {
            GoingDark x = at("l3,l9;01");
            x.ship(3, 0);
            x.ask(0, 0, false);
            due("LOST", x.breath(), 1);
            due("lit", x.about(0, 2), 0);
        });
        edge(12, "the last of DARK BREATHS is dark, the one behind it is not", () -> {
            GoingDark x = at("l3,l9;02");
            x.ask(0, 0, false);
            x.breath();
            x.ship(3, 0);
            due("LOST in the second", x.breath(), 1);
            x.ship(3, 0);
            due("LOST in the third", x.breath(), 0);
        });
        edge(12, "another that is lit shines on", () -> {
            GoingDark x = at("l3,l3;02");
            x.ship(3, 0);
            x.ask(0, 0, false);
            due("LOST", x.breath(), 0);
            x.ask(1, 0, false);
            due("LOST when both are dark", x.breath(), 1);
        });
        edge(12, "each is dark for its own BREATHS", () -> {
            GoingDark x = at("l3,l3,l3;09");
            x.ask(0, 0, false);
            x.breath();
            x.ask(1, 0, false);
            x.breath();
            due("the first", x.about(0, 2), 7);
            due("the second", x.about(1, 2), 8);
            due("the third", x.about(2, 2), 0);
        });
        edge(12, "what was HEARD, FACTS and THE PAGE stay", () -> {
            GoingDark x = Scene.BUSY.make();
            x.breath();
            due("FACTS", x.count(4), 8);
            due("HEARD", x.count(9), 3);
            due("letters", x.count(10), 4);
        });
        edge(12, "BREATHS as many as an object has calls", () -> {
            GoingDark x = at("l3,l3;02");
            x.ship(3, 0);
            breaths(x, 490);
            due("BREATH", x.count(8), 490);
            due("at sea", x.count(6), 1);
        });
    }

    // ---- promise 13

    private void atOnceRefused() {
        edge(13, "OUTSIDE: what -1", () -> refused(OUTSIDE, x -> x.atOnce(-1), Scene.ALL));
        edge(13, "OUTSIDE: what 2", () -> refused(OUTSIDE, x -> x.atOnce(2), Scene.ALL));
        edge(13, "OUTSIDE: what far away", () -> {
            refused(OUTSIDE, x -> x.atOnce(MAX), Scene.ALL);
            refused(OUTSIDE, x -> x.atOnce(MIN), Scene.ALL);
        });
        edge(13, "STATE: no STRAIT", () -> {
            refused(STATE, x -> x.atOnce(0), Scene.WITHOUT_STRAIT);
            refused(STATE, x -> x.atOnce(1), Scene.WITHOUT_STRAIT);
        });
        edge(13, "OUTSIDE is told ahead of STATE", () -> {
            refused(OUTSIDE, x -> x.atOnce(-1), Scene.WITHOUT_STRAIT);
            refused(OUTSIDE, x -> x.atOnce(2), Scene.WITHOUT_STRAIT);
        });
        edge(13, "it changes nothing", () -> {
            changesNothing(x -> x.atOnce(0), Scene.WITH_STRAIT);
            changesNothing(x -> x.atOnce(1), Scene.WITH_STRAIT);
        });
    }

    private void atOnceIs(String words, GoingDark x, int many, int bits) {
        edge(13, words, () -> {
            due("how many", x.atOnce(0), many);
            due("which", x.atOnce(1), bits);
        });
    }

    private static GoingDark withShip(String text, int place, int course) {
        GoingDark x = at(text);
        x.ship(place, course);
        return x;
    }

    private void atOnce() {
        atOnceIs("no SHIP: both of two", at("l3,l3;01"), 2, 3);
        atOnceIs("no SHIP: all five", at("l1,f2,s3,i4,o5;01"), 5, 31);
        atOnceIs("of like ones the least bits, two", withShip("l3,l3;01", 3, 0), 1, 1);
        atOnceIs("of like ones the least bits, five", withShip("l3,l3,l3,l3,l3;01", 3, 0), 4, 15);
        atOnceIs("the greatest ahead of the least bits", withShip("l5,l1,l8;13", 5, 0), 2, 6);
        atOnceIs("the least bits of the greatest", withShip("l3,l3,l9;11", 3, 0), 2, 5);
        atOnceIs("the last of five has to stay", withShip("l0,l0,l0,l0,l9;01", 9, 0), 4, 15);
        atOnceIs("the first of five has to stay", withShip("l9,l0,l0,l0,l0;01", 9, 0), 4, 30);
        atOnceIs("a SHIP that is LOST either way", withShip("l3,l3;01", 7, 0), 2, 3);
        atOnceIs("a SHIP that is THROUGH by the next BREATH", withShip("l9,l9;09", 9, 1), 2, 3);
        atOnceIs("LOST in the last of DARK BREATHS", withShip("l2,l7;25", 0, 1), 0, 0);
        atOnceIs("LOST behind DARK BREATHS alone", withShip("l2,l7;24", 0, 1), 1, 2);
        edge(13, "each MAY, but not both", () -> {
            GoingDark x = withShip("l3,l3;01", 3, 0);
            due("the first", x.about(0, 3), 1);
            due("the second", x.about(1, 3), 1);
            due("how many", x.atOnce(0), 1);
        });
        edge(13, "none may: the set of none, 0", () -> {
            GoingDark x = withShip("l3,l9;01", 3, 0);
            x.ship(9, 0);
            due("how many", x.atOnce(0), 0);
            due("which", x.atOnce(1), 0);
        });
        edge(13, "none is lit: 0", () -> {
            due("how many", Scene.DARKENED.make().atOnce(0), 0);
            due("which", Scene.DARKENED.make().atOnce(1), 0);
        });
        edge(13, "of those that are lit", () -> {
            GoingDark x = at("l1,l2,l3;01");
            x.ask(1, 0, false);
            due("how many", x.atOnce(0), 2);
            due("which", x.atOnce(1), 5);
        });
        edge(13, "one that is dark does not shine instead", () -> {
            GoingDark x = withShip("l3,l3,l3;01", 3, 0);
            x.ask(0, 0, false);
            due("how many", x.atOnce(0), 1);
            due("which", x.atOnce(1), 2);
            x.ask(1, 0, false);
            due("how many", x.atOnce(0), 0);
        });
        edge(13, "no more than else, where else one is LOST", () -> {
            GoingDark x = withShip("l3,l9;01", 5, 0);
            x.ship(3, 0);
            due("how many", x.atOnce(0), 1);
            due("which", x.atOnce(1), 2);
        });
        edge(13, "those LOST and THROUGH count no more", () -> {
            GoingDark x = withShip("l3,l9;01", 9, 1);
            x.ship(3, 1);
            x.breath();
            due("how many", x.atOnce(0), 2);
        });
    }
}
