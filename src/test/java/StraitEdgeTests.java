/** Boundary cases of promises 1 to 8: a new object, the page, the strait, its lights and facts. */
public final class StraitEdgeTests extends EdgeSuite {
    private static final String KINDS = "lfsio", DIGITS = "0123456789", FIVE = "l1,l2,l3,l4,l5";

    public static void main(String[] args) {
        StraitEdgeTests all = new StraitEdgeTests();
        all.newObject();
        all.letter();
        all.blank();
        all.faultByPlace();
        all.faultByWords();
        all.straitThatIsNone();
        all.straitOfBounds();
        all.straitAnew();
        all.aboutRefused();
        all.aboutDark();
        all.aboutMay();
        all.aboutWhen();
        all.aboutAsked();
        all.as();
        all.fact();
        all.end(1, 8);
    }

    // ---- promise 1

    private void newObject() {
        edge(1, "no STRAIT: count() is 0 of all", () -> {
            for (int what = 0; what <= 11; what++) {
                due("count(" + what + ")", new GoingDark().count(what), 0);
            }
        });
        edge(1, "no STRAIT: no number names a LIGHT or a SHIP", () -> {
            due("about", new GoingDark().about(0, 0), UNKNOWN);
            due("as", new GoingDark().as(0, 0), UNKNOWN);
            due("shipOf", new GoingDark().shipOf(0, 0), UNKNOWN);
            due("ask", new GoingDark().ask(0, 0, false), UNKNOWN);
            due("hear", new GoingDark().hear(0, 0, false, 0, true), UNKNOWN);
            due("kinds", new GoingDark().kinds(0), UNKNOWN);
        });
        edge(1, "no STRAIT: STATE of each call that needs one", () -> {
            due("strait", new GoingDark().strait(), STATE);
            due("fact", new GoingDark().fact(0, true), STATE);
            due("ship", new GoingDark().ship(0, 0), STATE);
            due("breath", new GoingDark().breath(), STATE);
            due("atOnce", new GoingDark().atOnce(0), STATE);
            due("worlds", new GoingDark().worlds(0), STATE);
            due("next", new GoingDark().next(), STATE);
            due("nights", new GoingDark().nights(1, 0, 0), STATE);
            due("image", new GoingDark().image(), STATE);
            due("restore", new GoingDark().restore(), STATE);
        });
        edge(1, "THE PAGE is empty", () -> {
            due("fault", new GoingDark().fault(), 0);
            due("blank", new GoingDark().blank(), 0);
        });
        edge(1, "nothing was HEARD", () -> due("forget", new GoingDark().forget(), 0));
        edge(1, "it is BREATH 0, all are lit, no FACT is so", () -> {
            GoingDark x = Scene.FRESH.make();
            due("BREATH", x.count(8), 0);
            due("lit", x.count(3), 5);
            due("FACTS", x.count(4), 0);
        });
        edge(1, "an object has nothing of another", () -> {
            GoingDark busy = Scene.BUSY.make();
            long then = busy.digest();
            GoingDark x = new GoingDark();
            due("LIGHTS of the new one", x.count(0), 0);
            due("letters of the new one", x.letter('l'), 1);
            due("the other's digest", busy.digest(), then);
        });
        edge(1, "the constants", () -> {
            due("NONE", GoingDark.NONE, -1);
            due("UNKNOWN", GoingDark.UNKNOWN, -101);
            due("OUTSIDE", GoingDark.OUTSIDE, -102);
            due("STATE", GoingDark.STATE, -103);
            due("FULL", GoingDark.FULL, -104);
        });
    }

    // ---- promise 2

    private void letter() {
        edge(2, "OUTSIDE: code 0 is too small", () -> refused(OUTSIDE, x -> x.letter(0), Scene.ALL));
        edge(2, "OUTSIDE: codes below 0", () -> {
            refused(OUTSIDE, x -> x.letter(-1), Scene.ALL);
            refused(OUTSIDE, x -> x.letter(MIN), Scene.ALL);
        });
        edge(2, "OUTSIDE: code 127 is too large", () -> refused(OUTSIDE, x -> x.letter(127), Scene.ALL));
        edge(2, "OUTSIDE: codes far above 126", () -> {
            refused(OUTSIDE, x -> x.letter(128), Scene.ALL);
            refused(OUTSIDE, x -> x.letter(MAX), Scene.ALL);
        });
        edge(2, "OUTSIDE: a code that is a letter's by its low bits alone", () -> {
            refused(OUTSIDE, x -> x.letter('l' + 256), Scene.ALL);
            refused(OUTSIDE, x -> x.letter('l' + 65536), Scene.ALL);
            refused(OUTSIDE, x -> x.letter('l' + MIN), Scene.ALL);
        });
        edge(2, "code 1 is the least that comes", () -> due("letter(1)", new GoingDark().letter(1), 1));
        edge(2, "code 126 is the greatest that comes", () -> due("letter(126)", new GoingDark().letter(126), 1));
        edge(2, "each code of 1 to 126 comes as it is", () -> {
            for (int code = 1; code <= 126; code++) {
                GoingDark x = new GoingDark();
                due("letter(" + code + ")", x.letter(code), 1);
                due("digest with " + code, x.digest(), digestOfPage(code));
            }
        });
        edge(2, "it comes behind THE PAGE", () -> {
            GoingDark x = new GoingDark();
            write(x, "lx");
            due("fault", x.fault(), 1);
            due("digest", x.digest(), digestOfPage('l', 'x'));
        });
        edge(2, "eighteen letters come", () -> {
            GoingDark x = new GoingDark();
            for (int n = 1; n <= 18; n++) {
                due("letter " + n, x.letter('l'), n);
            }
        });
        edge(2, "FULL: the nineteenth", () -> refused(FULL, x -> x.letter('l'), Scene.CROWDED, Scene.FILLED));
        edge(2, "FULL: codes 1 and 126, too", () -> {
            refused(FULL, x -> x.letter(1), Scene.CROWDED);
            refused(FULL, x -> x.letter(126), Scene.CROWDED);
        });
        edge(2, "OUTSIDE is told ahead of FULL", () -> {
            due("letter(0)", Scene.CROWDED.make().letter(0), OUTSIDE);
            due("letter(127)", Scene.CROWDED.make().letter(127), OUTSIDE);
        });
        edge(2, "no more FULL when THE PAGE is empty again", () -> {
            GoingDark x = Scene.CROWDED.make();
            x.blank();
            due("letter", x.letter('l'), 1);
        });
        edge(2, "no STRAIT is needed, and none is touched", () -> {
            GoingDark x = Scene.FRESH.make();
            due("letter", x.letter('l'), 1);
            due("LIGHTS", x.count(0), 5);
        });
    }

    /** Of an object with no strait: the letters, then what count() tells. */
    private static long digestOfPage(int... codes) {
        long h = 877;
        for (int code : codes) {
            h = 31 * h + code;
        }
        for (int what = 0; what <= 11; what++) {
            h = 31 * h + (what == 10 ? codes.length : 0);
        }
        return h;
    }

    // ---- promise 3

    private void blank() {
        edge(3, "an empty PAGE had none", () -> changesNothing(GoingDark::blank, Scene.NEW, Scene.FRESH, Scene.DARKENED));
        edge(3, "an empty PAGE: 0", () -> due("blank", Scene.FRESH.make().blank(), 0));
        edge(3, "one letter", () -> {
            GoingDark x = new GoingDark();
            x.letter('l');
            due("blank", x.blank(), 1);
            due("blank again", x.blank(), 0);
        });
        edge(3, "a full PAGE had eighteen", () -> {
            GoingDark x = Scene.CROWDED.make();
            due("blank", x.blank(), 18);
            due("letters", x.count(10), 0);
        });
        edge(3, "what was written ahead of it is gone", () -> {
            GoingDark x = new GoingDark();
            write(x, "l5,f0;43");
            x.blank();
            due("fault", x.fault(), 0);
            due("strait", x.strait(), STATE);
            due("digest", x.digest(), digestOfPage());
            x.letter('l');
            due("fault of one letter", x.fault(), 1);
            due("strait of one letter", x.strait(), STATE);
        });
        edge(3, "only THE PAGE is empty: all else stays", () -> {
            GoingDark x = Scene.BUSY.make();
            int[] counts = {5, 2, 3, 3, 8, 2, 2, 0, 2, 3, 0, 2};
            due("blank", x.blank(), 4);
            for (int what = 0; what < counts.length; what++) {
                due("count(" + what + ")", x.count(what), counts[what]);
            }
            due("restore", x.restore(), 1);
        });
    }

    // ---- promise 4

    /** Behind a beginning of a strait: just these letters can come, of all that a page takes. */
    private void comesBehind(String words, String ahead, String fit) {
        edge(4, words + ": behind \"" + ahead + "\" comes one of \"" + fit + "\"", () -> {
            for (int code = 1; code <= 126; code++) {
                GoingDark x = new GoingDark();
                write(x, ahead);
                x.letter(code);
                boolean isFit = fit.indexOf(code) >= 0;
                due("fault with code " + code, x.fault(), isFit ? ahead.length() + 1 : ahead.length());
            }
        });
    }

    private void faultByPlace() {
        comesBehind("the first KIND", "", KINDS);
        comesBehind("the first PLACE", "l", DIGITS);
        comesBehind("two LIGHTS at least", "l5", ",");
        comesBehind("the second KIND", "o0,", KINDS);
        comesBehind("the second PLACE", "s9,f", DIGITS);
        comesBehind("two LIGHTS are enough", "l5,f0", ",;");
        comesBehind("the third KIND", "l5,f0,", KINDS);
        comesBehind("three LIGHTS", "l5,f0,s9", ",;");
        comesBehind("four LIGHTS", "l5,f0,s9,i1", ",;");
        comesBehind("the fifth KIND", "l5,f0,s9,i1,", KINDS);
        comesBehind("the fifth PLACE", "l5,f0,s9,i1,o", DIGITS);
        comesBehind("five LIGHTS at most", FIVE, ";");
        comesBehind("REACH of two", "l5,f0;", DIGITS);
        comesBehind("REACH of five", FIVE + ";", DIGITS);
        comesBehind("DARK (1 to 9) behind REACH 0", "l5,f0;0", "123456789");
        comesBehind("DARK (1 to 9) behind REACH 9", "l5,f0;9", "123456789");
        comesBehind("DARK (1 to 9) of five", FIVE + ";0", "123456789");
        comesBehind("nothing behind DARK", "l5,f0;43", "");
        comesBehind("nothing behind DARK of four", "l5,f0,s9,i1;99", "");
        comesBehind("nothing behind DARK of five", FIVE + ";01", "");
    }

    private void faultIs(String words, String text, int want) {
        edge(4, words + ": \"" + text + "\"", () -> {
            GoingDark x = new GoingDark();
            write(x, text);
            due("fault", x.fault(), want);
        });
    }

    private void faultByWords() {
        faultIs("an empty PAGE has no fault, and no letters", "", 0);
        faultIs("places count from 0", "x", 0);
        faultIs("no fault: how many letters it has", "l5,f", 4);
        faultIs("a STRAIT has no fault", "l5,f0;43", 8);
        faultIs("the longest STRAIT has no fault", FIVE + ";43", 17);
        faultIs("the first of two faults", "l5x,;", 2);
        faultIs("what is right again behind a fault does not mend it", "l5,x0;43", 3);
        faultIs("KINDS are small letters", "l5,F0;43", 3);
        faultIs("one LIGHT alone", "l5;43", 2);
        faultIs("a sixth LIGHT", FIVE + ",l6", 14);
        faultIs("DARK 0", "l5,f0;40", 7);
        faultIs("a full PAGE: the letter behind the longest STRAIT", FIVE + ";111", 17);
        faultIs("a full PAGE: nothing of it fits", "xxxxxxxxxxxxxxxxxx", 0);
        faultIs("two STRAITS, one behind the other", "l5,f0;43l5,f0;43", 8);
        edge(4, "it changes nothing", () -> changesNothing(GoingDark::fault, Scene.ALL));
        edge(4, "a STRAIT that was read is not on THE PAGE any more", () -> due("fault", Scene.FRESH.make().fault(), 0));
    }

    // ---- promise 5

    private void isNone(String words, String text) {
        edge(5, "STATE: it is none, " + words + ": \"" + text + "\"", () -> {
            GoingDark x = new GoingDark();
            write(x, text);
            due("strait", x.strait(), STATE);
            due("THE PAGE stays", x.count(10), text.length());
            due("no STRAIT", x.count(0), 0);
            due("read", x.count(11), 0);
        });
    }

    private void straitThatIsNone() {
        isNone("empty", "");
        isNone("a KIND alone", "l");
        isNone("a LIGHT alone", "l5");
        isNone("a third is begun", "l5,f0,");
        isNone("a PLACE lacks", "l5,f");
        isNone("two LIGHTS alone", "l5,f0");
        isNone("REACH lacks", "l5,f0;");
        isNone("DARK lacks", "l5,f0;4");
        isNone("DARK of five lacks", FIVE + ";4");
        isNone("one LIGHT", "l5;43");
        isNone("no LIGHT", ";43");
        isNone("six LIGHTS", FIVE + ",l6;");
        isNone("DARK 0", "l5,f0;40");
        isNone("a letter too many", "l5,f0;431");
        isNone("a full PAGE", FIVE + ";111");
        isNone("a letter ahead", "xl5,f0;43");
        isNone("no such KIND", "l5,x0;43");
        isNone("REACH is no digit", "l5,f0;x3");
        isNone("PLACE is no digit", "l5,f:;43");
        isNone("';' too early", "l;,f0;43");
        edge(5, "STATE changes nothing", () -> refused(STATE, GoingDark::strait, Scene.ALL));
        edge(5, "an IMAGE outlives a refused strait()", () -> {
            GoingDark x = Scene.BUSY.make();
            due("strait", x.strait(), STATE);
            due("restore", x.restore(), 1);
        });
        edge(5, "a refused PAGE can be ended and read", () -> {
            GoingDark x = Scene.WRITTEN.make();
            due("strait", x.strait(), STATE);
            x.letter('3');
            due("strait", x.strait(), 2);
        });
    }

    private void isRead(String words, String text, int lights, int reach, int dark) {
        edge(5, words + ": \"" + text + "\"", () -> {
            GoingDark x = new GoingDark();
            write(x, text);
            due("strait", x.strait(), lights);
            due("LIGHTS", x.count(0), lights);
            due("REACH", x.count(1), reach);
            due("DARK", x.count(2), dark);
            due("THE PAGE is empty", x.count(10), 0);
            for (int light = 0; light < lights; light++) {
                due("KIND of " + light, x.about(light, 0), KINDS.indexOf(text.charAt(3 * light)));
                due("PLACE of " + light, x.about(light, 1), DIGITS.indexOf(text.charAt(3 * light + 1)));
            }
            due("no LIGHT behind the last", x.about(lights, 0), UNKNOWN);
        });
    }

    private void straitOfBounds() {
        isRead("two LIGHTS, the fewest", "l5,f0;43", 2, 4, 3);
        isRead("three LIGHTS", "s0,i9,o5;28", 3, 2, 8);
        isRead("four LIGHTS", "o1,i2,s3,f4;56", 4, 5, 6);
        isRead("five LIGHTS, the most", "l1,f2,s3,i4,o5;43", 5, 4, 3);
        isRead("PLACES 0 and 9", "l0,l9;43", 2, 4, 3);
        isRead("the least REACH and DARK", "l5,f0;01", 2, 0, 1);
        isRead("the greatest REACH and DARK", "l5,f0;99", 2, 9, 9);
        isRead("LIGHTS on one PLACE", "l3,l3,l3,l3,l3;33", 5, 3, 3);
    }

    /** All that is told of a strait, but for how often one was read. */
    private static long[] looks(GoingDark x) {
        long[] told = new long[110];
        int n = 0;
        for (int light = 0; light <= 5; light++) {
            for (int what = 0; what <= 6; what++) {
                told[n++] = x.about(light, what);
            }
            told[n++] = x.as(light, 3);
            told[n++] = x.kinds(light);
        }
        for (int ship = 0; ship < 3; ship++) {
            for (int what = 0; what <= 3; what++) {
                told[n++] = x.shipOf(ship, what);
            }
        }
        for (int what = 0; what <= 10; what++) {
            told[n++] = x.count(what);
        }
        for (int what = 0; what <= 3; what++) {
            told[n++] = x.worlds(what);
        }
        told[n++] = x.atOnce(1);
        told[n++] = x.next();
        for (int what = 0; what <= 2; what++) {
            told[n++] = x.nights(40, 11, what);
        }
        return told;
    }

    private void areAlike(String when, GoingDark x, GoingDark y) {
        long[] got = looks(x);
        long[] want = looks(y);
        for (int i = 0; i < want.length; i++) {
            due(when + ", look " + i, got[i], want[i]);
        }
    }

    private void isAnew(Scene scene, String text) {
        edge(5, "another one is gone with all that was: " + scene + ", then \"" + text + "\"", () -> {
            GoingDark x = scene.make();
            x.blank();
            write(x, text);
            x.strait();
            GoingDark y = at(text);
            areAlike("as at first", x, y);
            due("no IMAGE", x.restore(), STATE);
            for (int light = 0; light < y.count(0); light++) {
                due("ask " + light, x.ask(light, 1, false), y.ask(light, 1, false));
            }
            due("a SHIP", x.ship(4, 1), 0);
            y.ship(4, 1);
            areAlike("with a SHIP", x, y);
            due("a BREATH", x.breath(), y.breath());
            due("HEARD", x.hear(1, 1, false, 0, false), 1);
            y.hear(1, 1, false, 0, false);
            areAlike("a BREATH later", x, y);
        });
    }

    private void straitAnew() {
        for (Scene scene : Scene.WITH_STRAIT) {
            isAnew(scene, "l5,f0;43");
            isAnew(scene, "l1,f2,s3,i4,o9;13");
        }
        edge(5, "who was dark is lit, though a shorter STRAIT came between", () -> {
            GoingDark x = at("l1,l2,l3,l4,l5;19");
            for (int light = 0; light < 5; light++) {
                x.ask(light, 0, false);
            }
            write(x, "l5,f0;43");
            x.strait();
            due("lit", x.count(3), 2);
            write(x, "l1,l2,l3,l4,l5;19");
            x.strait();
            due("lit", x.count(3), 5);
        });
        edge(5, "the same text again is another STRAIT", () -> {
            GoingDark x = Scene.FRESH.make();
            x.fact(0, true);
            x.breath();
            write(x, "l1,f2,s3,i4,o9;13");
            due("strait", x.strait(), 5);
            due("FACTS", x.count(4), 0);
            due("BREATH", x.count(8), 0);
        });
        edge(5, "THE PAGE is empty then: it is not read twice", () -> {
            GoingDark x = Scene.FRESH.make();
            due("strait", x.strait(), STATE);
            due("LIGHTS", x.count(0), 5);
        });
    }

    // ---- promise 6

    private void aboutRefused() {
        edge(6, "UNKNOWN: LIGHT -1", () -> refused(UNKNOWN, x -> x.about(-1, 0), Scene.ALL));
        edge(6, "UNKNOWN: the number behind the last LIGHT", () -> {
            refused(UNKNOWN, x -> x.about(5, 0), Scene.FRESH, Scene.BUSY);
            refused(UNKNOWN, x -> x.about(3, 0), Scene.FILLED, Scene.DARKENED, Scene.BEWILDERED);
        });
        edge(6, "the last LIGHT is known", () -> due("about", Scene.FRESH.make().about(4, 0), 4));
        edge(6, "UNKNOWN: numbers far away", () -> {
            refused(UNKNOWN, x -> x.about(MAX, 2), Scene.ALL);
            refused(UNKNOWN, x -> x.about(MIN, 3), Scene.ALL);
        });
        edge(6, "UNKNOWN: no STRAIT", () -> refused(UNKNOWN, x -> x.about(0, 4), Scene.WITHOUT_STRAIT));
        edge(6, "OUTSIDE: what -1", () -> refused(OUTSIDE, x -> x.about(0, -1), Scene.WITH_STRAIT));
        edge(6, "OUTSIDE: what 7", () -> refused(OUTSIDE, x -> x.about(2, 7), Scene.WITH_STRAIT));
        edge(6, "OUTSIDE: what far away", () -> {
            refused(OUTSIDE, x -> x.about(0, MAX), Scene.WITH_STRAIT);
            refused(OUTSIDE, x -> x.about(0, MIN), Scene.WITH_STRAIT);
        });
        edge(6, "UNKNOWN is told ahead of OUTSIDE", () -> {
            refused(UNKNOWN, x -> x.about(-1, -1), Scene.ALL);
            refused(UNKNOWN, x -> x.about(5, 7), Scene.ALL);
            refused(UNKNOWN, x -> x.about(0, 7), Scene.WITHOUT_STRAIT);
        });
        for (int what = 0; what <= 6; what++) {
            int one = what;
            edge(6, "what " + what + " changes nothing", () -> changesNothing(x -> x.about(1, one), Scene.WITH_STRAIT));
        }
    }

    private void aboutDark() {
        edge(6, "dark for 0: it is lit at first", () -> {
            for (int light = 0; light < 5; light++) {
                due("light " + light, Scene.FRESH.make().about(light, 2), 0);
            }
        });
        edge(6, "dark for 1, the least DARK, then lit", () -> {
            GoingDark x = at("l1,l9;11");
            x.ask(0, 0, false);
            due("dark for", x.about(0, 2), 1);
            x.breath();
            due("lit", x.about(0, 2), 0);
        });
        edge(6, "dark for 9, the greatest DARK, a BREATH less each, then lit and no less", () -> {
            GoingDark x = at("l1,l9;19");
            x.ask(0, 0, false);
            for (int gone = 0; gone <= 11; gone++) {
                due("behind " + gone, x.about(0, 2), Math.max(0, 9 - gone));
                due("the other, behind " + gone, x.about(1, 2), 0);
                x.breath();
            }
        });
        edge(6, "who says yes is not dark", () -> {
            GoingDark x = at("l1,l9;19");
            x.ask(0, 0, true);
            due("lit", x.about(0, 2), 0);
        });
    }

    /** A light on 4 shines on 2 to 6, one on 0 shines on 0 to 2: with a ship on a place, may they go dark? */
    private void mayOver(String words, int place, int first, int second) {
        edge(6, "MAY: " + words + ", PLACE " + place, () -> {
            GoingDark x = at("l4,l0;21");
            x.ship(place, 0);
            due("the first", x.about(0, 3), first);
            due("the second", x.about(1, 3), second);
        });
    }

    /** A light shines on 0 to 4, one on 5 to 9, and a ship goes up from 0: it comes to 5 by the fifth breath. */
    private static GoingDark passing(int dark) {
        GoingDark x = at("l2,l7;2" + dark);
        x.ship(0, 1);
        return x;
    }

    private void aboutMay() {
        mayOver("REACH to the upper side, as far as it goes", 6, 0, 1);
        mayOver("one more than REACH: LOST either way", 7, 1, 1);
        mayOver("REACH to the lower side, as far as it goes, both shine", 2, 1, 1);
        mayOver("within one's REACH, one more than the other's", 3, 0, 1);
        mayOver("one less than one's REACH", 1, 1, 0);
        mayOver("PLACE 0", 0, 1, 0);
        mayOver("PLACE 9", 9, 1, 1);
        edge(6, "MAY: REACH 0 is its own PLACE", () -> {
            for (int place = 3; place <= 5; place++) {
                GoingDark x = at("l4,l0;01");
                x.ship(place, 0);
                due("a SHIP on " + place, x.about(0, 3), place == 4 ? 0 : 1);
            }
        });
        edge(6, "MAY: REACH 9 is all PLACES, so another shines on", () -> {
            GoingDark x = at("l0,l9;91");
            x.ship(9, 0);
            x.ship(0, 0);
            due("the first", x.about(0, 3), 1);
            due("the second", x.about(1, 3), 1);
        });
        edge(6, "MAY: with no SHIP", () -> due("may", Scene.FRESH.make().about(0, 3), 1));
        edge(6, "MAY: not if it is dark", () -> {
            GoingDark x = at("l1,l9;11");
            x.ask(0, 0, false);
            due("dark", x.about(0, 3), 0);
            due("the other", x.about(1, 3), 1);
        });
        edge(6, "MAY: LOST in the last of the next DARK BREATHS", () -> due("may", passing(5).about(1, 3), 0));
        edge(6, "MAY: LOST behind the next DARK BREATHS", () -> due("may", passing(4).about(1, 3), 1));
        edge(6, "MAY: LOST in the first of them", () -> due("may", passing(1).about(0, 3), 0));
        edge(6, "MAY: a SHIP that is on it but goes on ahead of all", () -> {
            GoingDark x = at("l2,l7;21");
            x.ship(4, 1);
            due("the one it leaves", x.about(0, 3), 1);
            due("the one it comes to", x.about(1, 3), 0);
        });
        edge(6, "MAY: a SHIP that is THROUGH by the next BREATH", () -> {
            GoingDark x = at("l0,l9;09");
            x.ship(0, -1);
            x.ship(9, 1);
            due("below 0", x.about(0, 3), 1);
            due("above 9", x.about(1, 3), 1);
        });
        edge(6, "MAY: no more are LOST than else, as many are", () -> {
            GoingDark x = at("l0,l9;01");
            x.ship(5, 0);
            due("may", x.about(0, 3), 1);
        });
        edge(6, "MAY: one more is LOST than else", () -> {
            GoingDark x = at("l0,l9;01");
            x.ship(5, 0);
            x.ship(0, 0);
            due("the first", x.about(0, 3), 0);
            due("the second", x.about(1, 3), 1);
        });
        edge(6, "MAY: earlier LOST, but in these BREATHS either way", () -> {
            GoingDark x = at("l1,l9;03");
            x.ship(0, 1);
            due("LOST on 1, or on 2", x.about(0, 3), 1);
        });
        edge(6, "MAY: those that are LOST or THROUGH count no more", () -> {
            GoingDark x = at("l0,l9;01");
            x.ship(0, -1);
            x.ship(9, -1);
            x.breath();
            due("THROUGH", x.about(0, 3), 1);
            due("LOST", x.about(1, 3), 1);
        });
        edge(6, "MAY: another's dark ends within these BREATHS, or ahead of them", () -> {
            GoingDark x = at("l3,l3;03");
            x.ship(3, 0);
            GoingDark y = at("l3,l3;03");
            y.ask(1, 0, false);
            breaths(y, 2);
            y.ship(3, 0);
            due("both are lit", x.about(0, 3), 1);
            due("dark for one yet", y.about(0, 3), 0);
            y.breath();
            due("lit again", y.about(0, 3), 1);
        });
        edge(6, "MAY: a FIRE and a LIAR are asked after as others are", () -> {
            GoingDark x = at("f3,i9;01");
            x.ship(3, 0);
            due("FIRE", x.about(0, 3), 0);
            due("LIAR", x.about(1, 3), 1);
        });
    }

    private void aboutWhen() {
        edge(6, "WHEN 0: it MAY now", () -> due("when", Scene.FRESH.make().about(0, 4), 0));
        edge(6, "WHEN 1", () -> {
            GoingDark x = at("l2,l7;21");
            x.ship(3, 1);
            due("when", x.about(0, 4), 1);
        });
        edge(6, "WHEN: MAY now, though not later", () -> due("when", passing(4).about(1, 4), 0));
        edge(6, "WHEN 4: a SHIP leaves its REACH", () -> due("when", passing(9).about(0, 4), 4));
        edge(6, "WHEN 9: a SHIP goes all the way", () -> due("when", passing(9).about(1, 4), 9));
        edge(6, "WHEN 9: dark for the greatest DARK", () -> {
            GoingDark x = at("l2,l7;29");
            x.ask(0, 0, false);
            due("when", x.about(0, 4), 9);
            x.breath();
            due("a BREATH later", x.about(0, 4), 8);
        });
        edge(6, "WHEN 9: another is dark for the greatest DARK", () -> {
            GoingDark x = at("l3,l3;09");
            x.ask(1, 0, false);
            x.ship(3, 0);
            due("a SHIP is LOST else", x.about(0, 4), 9);
        });
        edge(6, "WHEN: lit is not enough, it MAY, too", () -> {
            GoingDark x = at("l3,l9;01");
            x.ask(0, 0, false);
            x.breath();
            x.ship(3, 0);
            due("lit, never", x.about(0, 4), NONE);
        });
        edge(6, "WHEN: the SHIP is LOST by its own dark, so it MAY when lit", () -> {
            GoingDark x = at("l3,l9;02");
            x.ship(3, 0);
            x.ask(0, 0, false);
            due("when", x.about(0, 4), 2);
        });
        edge(6, "WHEN: NONE", () -> {
            GoingDark x = at("l3,l9;01");
            x.ship(3, 0);
            due("when", x.about(0, 4), NONE);
            due("the other", x.about(1, 4), 0);
            breaths(x, 40);
            due("40 BREATHS later", x.about(0, 4), NONE);
        });
        edge(6, "WHEN: nobody is ASKED until then, so it is the same for each KIND and by all FACTS", () -> {
            for (int kind = 0; kind < 5; kind++) {
                for (int is = 0; is < 2; is++) {
                    GoingDark x = at("l2," + KINDS.charAt(kind) + "7;29");
                    x.ship(0, 1);
                    for (int fact = 0; fact < 4; fact++) {
                        x.fact(fact, is == 1);
                    }
                    due("the KIND " + kind + ", FACTS " + is, x.about(1, 4), 9);
                    due("the other, FACTS " + is, x.about(0, 4), 4);
                }
            }
        });
        edge(6, "WHEN: no BREATH goes by when it is told", () -> {
            GoingDark x = passing(9);
            x.about(1, 4);
            due("BREATH", x.count(8), 0);
            due("PLACE", x.shipOf(0, 0), 0);
        });
    }

    private void aboutAsked() {
        edge(6, "ASKED 0 times, no 0 times", () -> {
            due("ASKED", Scene.FRESH.make().about(2, 5), 0);
            due("no", Scene.FRESH.make().about(2, 6), 0);
        });
        edge(6, "ASKED counts a yes, no does not", () -> {
            GoingDark x = Scene.FRESH.make();
            x.ask(1, 0, false);
            x.ask(1, 0, false);
            due("ASKED", x.about(1, 5), 2);
            due("no", x.about(1, 6), 0);
        });
        edge(6, "ASKED and no both count a no", () -> {
            GoingDark x = Scene.FRESH.make();
            x.ask(0, 0, false);
            due("ASKED", x.about(0, 5), 1);
            due("no", x.about(0, 6), 1);
            due("another's", x.about(1, 5) + x.about(1, 6), 0);
        });
        edge(6, "a refused question counts for neither", () -> {
            GoingDark x = Scene.FRESH.make();
            x.ask(0, 0, false);
            x.ask(0, 0, false);
            x.ask(1, 4, false);
            due("ASKED, dark", x.about(0, 5), 1);
            due("no, dark", x.about(0, 6), 1);
            due("ASKED of no FACT", x.about(1, 5), 0);
        });
        edge(6, "what was HEARD and what NIGHTS would be count for neither", () -> {
            GoingDark x = Scene.FRESH.make();
            x.hear(0, 0, false, 0, false);
            x.nights(40, 3, 1);
            due("ASKED", x.about(0, 5), 0);
            due("no", x.about(0, 6), 0);
        });
        edge(6, "ASKED as often as an object has calls", () -> {
            GoingDark x = at("l5,f0;43");
            for (int n = 1; n <= 500; n++) {
                x.ask(1, 0, false);
            }
            due("ASKED", x.about(1, 5), 500);
        });
    }

    // ---- promise 7

    private void as() {
        edge(7, "UNKNOWN: LIGHT -1", () -> refused(UNKNOWN, x -> x.as(-1, 0), Scene.ALL));
        edge(7, "UNKNOWN: the number behind the last LIGHT", () -> {
            refused(UNKNOWN, x -> x.as(5, 0), Scene.FRESH, Scene.BUSY);
            refused(UNKNOWN, x -> x.as(3, 0), Scene.FILLED, Scene.DARKENED, Scene.BEWILDERED);
        });
        edge(7, "UNKNOWN: numbers far away", () -> {
            refused(UNKNOWN, x -> x.as(MAX, 0), Scene.ALL);
            refused(UNKNOWN, x -> x.as(MIN, 0), Scene.ALL);
        });
        edge(7, "UNKNOWN: no STRAIT", () -> refused(UNKNOWN, x -> x.as(0, 0), Scene.WITHOUT_STRAIT));
        edge(7, "OUTSIDE: KIND -1", () -> refused(OUTSIDE, x -> x.as(0, -1), Scene.WITH_STRAIT));
        edge(7, "OUTSIDE: KIND 5", () -> refused(OUTSIDE, x -> x.as(0, 5), Scene.WITH_STRAIT));
        edge(7, "OUTSIDE: KINDS far away", () -> {
            refused(OUTSIDE, x -> x.as(0, MAX), Scene.WITH_STRAIT);
            refused(OUTSIDE, x -> x.as(0, MIN), Scene.WITH_STRAIT);
        });
        edge(7, "UNKNOWN is told ahead of OUTSIDE", () -> {
            refused(UNKNOWN, x -> x.as(-1, 5), Scene.ALL);
            refused(UNKNOWN, x -> x.as(5, -1), Scene.ALL);
            refused(UNKNOWN, x -> x.as(0, 5), Scene.WITHOUT_STRAIT);
        });
        edge(7, "all are LIGHTS", () -> {
            for (int light = 0; light < 5; light++) {
                due("as(" + light + ", 0)", Scene.FRESH.make().as(light, 0), light);
            }
        });
        edge(7, "each is what it is", () -> {
            for (int light = 0; light < 5; light++) {
                due("as(" + light + ", " + light + ")", Scene.FRESH.make().as(light, light), light);
            }
        });
        edge(7, "a FOOL is a LIAR, too", () -> due("as", Scene.FRESH.make().as(4, 3), 4));
        edge(7, "a LIAR is no FOOL", () -> due("as", Scene.FRESH.make().as(3, 4), NONE));
        edge(7, "a LIGHT is nothing but a LIGHT", () -> {
            for (int kind = 1; kind <= 4; kind++) {
                due("as(0, " + kind + ")", Scene.FRESH.make().as(0, kind), NONE);
            }
        });
        edge(7, "NONE: the cast fails", () -> {
            int[][] fails = {{1, 2}, {1, 3}, {1, 4}, {2, 1}, {2, 3}, {2, 4}, {3, 1}, {3, 2}, {4, 1}, {4, 2}};
            for (int[] one : fails) {
                due("as(" + one[0] + ", " + one[1] + ")", Scene.FRESH.make().as(one[0], one[1]), NONE);
            }
        });
        edge(7, "a dark one is taken as well", () -> due("as", Scene.DARKENED.make().as(2, 3), 2));
        edge(7, "it changes nothing", () -> {
            changesNothing(x -> x.as(0, 3), Scene.WITH_STRAIT);
            changesNothing(x -> x.as(2, 0), Scene.WITH_STRAIT);
        });
    }

    // ---- promise 8

    private void fact() {
        edge(8, "UNKNOWN: FACT -1", () -> refused(UNKNOWN, x -> x.fact(-1, true), Scene.ALL));
        edge(8, "UNKNOWN: FACT 4", () -> refused(UNKNOWN, x -> x.fact(4, true), Scene.ALL));
        edge(8, "UNKNOWN: FACTS far away", () -> {
            refused(UNKNOWN, x -> x.fact(MAX, true), Scene.ALL);
            refused(UNKNOWN, x -> x.fact(MIN, false), Scene.ALL);
            refused(UNKNOWN, x -> x.fact(32, true), Scene.ALL);
        });
        edge(8, "STATE: no STRAIT", () -> {
            refused(STATE, x -> x.fact(0, true), Scene.WITHOUT_STRAIT);
            refused(STATE, x -> x.fact(3, false), Scene.WITHOUT_STRAIT);
        });
        edge(8, "UNKNOWN is told ahead of STATE", () -> refused(UNKNOWN, x -> x.fact(4, true), Scene.WITHOUT_STRAIT));
        edge(8, "a FACT told ahead of a STRAIT is not so in it", () -> {
            GoingDark x = new GoingDark();
            x.fact(0, true);
            write(x, "l5,f0;43");
            x.strait();
            due("FACTS", x.count(4), 0);
        });
        for (int fact = 0; fact <= 3; fact++) {
            int one = fact;
            edge(8, "FACT " + fact + " and no other is so, then not so", () -> {
                GoingDark x = Scene.FRESH.make();
                due("was", x.fact(one, true), 0);
                due("FACTS", x.count(4), 1 << one);
                due("was", x.fact(one, false), 1);
                due("FACTS", x.count(4), 0);
            });
        }
        edge(8, "told twice, it was so", () -> {
            GoingDark x = Scene.FRESH.make();
            x.fact(2, true);
            due("was", x.fact(2, true), 1);
            due("FACTS", x.count(4), 4);
        });
        edge(8, "not so at first, told not so", () -> {
            GoingDark x = Scene.FRESH.make();
            due("was", x.fact(2, false), 0);
            due("FACTS", x.count(4), 0);
        });
        edge(8, "all are so, then all but one", () -> {
            GoingDark x = Scene.FRESH.make();
            for (int fact = 0; fact <= 3; fact++) {
                x.fact(fact, true);
            }
            due("FACTS", x.count(4), 15);
            due("was", x.fact(0, false), 1);
            due("FACTS", x.count(4), 14);
        });
        edge(8, "what is so does not touch what was HEARD", () -> {
            GoingDark x = Scene.FRESH.make();
            x.fact(0, true);
            due("WORLDS", x.worlds(0), 16);
        });
    }
}
