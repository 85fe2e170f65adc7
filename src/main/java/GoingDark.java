/** Lights along a strait that answer questions: a no is told by going dark. See README.md. */
public final class GoingDark {
    public static final int NONE = -1, UNKNOWN = -101, OUTSIDE = -102, STATE = -103, FULL = -104;

    private static final int LIGHT = 0, FIRE = 1, SAINT = 2, LIAR = 3, FOOL = 4, ALL_KINDS = 5;
    private static final String KIND_LETTERS = "lfsio";
    private static final int AT_SEA = 0, THROUGH = 1, LOST = 2;
    private static final int MOST_LETTERS = 18, MOST_LIGHTS = 5, MOST_SHIPS = 3, MOST_HEARD = 8;
    private static final int ALL_PLACES = 10, ALL_FACTS = 4, ALL_WORLDS = 16;
    private static final int LATEST_HEARD = 99, LONGEST_WAIT = 30, LONGEST_NIGHTS = 40;
    private static final int ABOUTS = 7, SHIP_ABOUTS = 4, COUNTS = 12;

    private final Page page;
    private final Strait here;
    private final Night tonight;
    private final Night keptNight;
    private final Night dreamtNight;
    private final Heard heard;
    private final Heard keptHeard;
    private final Draws draws;
    private boolean isKept;
    private int straitsRead;

    public GoingDark() {
        page = new Page();
        here = new Strait();
        tonight = new Night(here);
        keptNight = new Night(here);
        dreamtNight = new Night(here);
        heard = new Heard(here);
        keptHeard = new Heard(here);
        draws = new Draws();
        isKept = false;
        straitsRead = 0;
    }

    // ---- the strait

    public int letter(int code) {
        if (code < 1 || code > 126) {
            return OUTSIDE;
        }
        if (page.letters >= MOST_LETTERS) {
            return FULL;
        }
        page.write(code);
        return page.letters;
    }

    public int blank() {
        int had = page.letters;
        page.wipe();
        return had;
    }

    public int fault() {
        return page.firstFault();
    }

    public int strait() {
        if (!page.isWhole()) {
            return STATE;
        }
        here.read(page);
        page.wipe();
        tonight.begin();
        heard.clear();
        isKept = false;
        straitsRead++;
        return here.lights;
    }

    public int about(int light, int what) {
        if (!here.hasLight(light)) {
            return UNKNOWN;
        }
        switch (what) {
            case 0: return here.kindOf.at(light);
            case 1: return here.placeOf.at(light);
            case 2: return tonight.darkFor.at(light);
            case 3: return tonight.mayGoDark(light) ? 1 : 0;
            case 4: return waitOf(light);
            case 5: return tonight.askedOf.at(light);
            case 6: return tonight.noesOf.at(light);
            default: return OUTSIDE;
        }
    }

    public int as(int light, int kind) {
        if (!here.hasLight(light)) {
            return UNKNOWN;
        }
        if (kind < 0 || kind >= ALL_KINDS) {
            return OUTSIDE;
        }
        return isOfKind(here.kindOf.at(light), kind) ? light : NONE;
    }

    public int fact(int fact, boolean is) {
        if (!isFact(fact)) {
            return UNKNOWN;
        }
        if (here.lights == 0) {
            return STATE;
        }
        int was = (tonight.facts >> fact) & 1;
        int bit = 1 << fact;
        tonight.facts = is ? tonight.facts | bit : tonight.facts & ~bit;
        return was;
    }

    // ---- ships, questions

    public int ship(int place, int course) {
        if (!isPlace(place)) {
            return UNKNOWN;
        }
        if (course < -1 || course > 1) {
            return OUTSIDE;
        }
        if (here.lights == 0) {
            return STATE;
        }
        if (tonight.ships >= MOST_SHIPS) {
            return FULL;
        }
        return tonight.launch(place, course);
    }

    public int shipOf(int ship, int what) {
        if (ship < 0 || ship >= tonight.ships) {
            return UNKNOWN;
        }
        switch (what) {
            case 0: return tonight.placeOf.at(ship);
            case 1: return tonight.courseOf.at(ship) + 1;
            case 2: return tonight.stateOf.at(ship);
            case 3: return Integer.bitCount(here.shiningOn.at(tonight.placeOf.at(ship)) & tonight.litNow());
            default: return OUTSIDE;
        }
    }

    public int ask(int light, int fact, boolean turned) {
        if (!here.hasLight(light) || !isFact(fact)) {
            return UNKNOWN;
        }
        if (tonight.darkFor.at(light) > 0) {
            return STATE;
        }
        return tonight.answer(light, fact, turned) ? 1 : 0;
    }

    public int breath() {
        return here.lights == 0 ? STATE : tonight.passBreath();
    }

    public int atOnce(int what) {
        if (what < 0 || what > 1) {
            return OUTSIDE;
        }
        if (here.lights == 0) {
            return STATE;
        }
        int set = tonight.greatestAtOnce();
        return what == 0 ? Integer.bitCount(set) : set;
    }

    // ---- what was heard

    public int hear(int light, int fact, boolean turned, int breath, boolean yes) {
        if (!here.hasLight(light) || !isFact(fact)) {
            return UNKNOWN;
        }
        if (breath < 0 || breath > LATEST_HEARD) {
            return OUTSIDE;
        }
        if (heard.size >= MOST_HEARD) {
            return FULL;
        }
        heard.add(light, fact, turned, breath, yes);
        return heard.size;
    }

    public int forget() {
        int had = heard.size;
        heard.clear();
        return had;
    }

    public int worlds(int what) {
        if (what < 0 || what > 3) {
            return OUTSIDE;
        }
        if (here.lights == 0) {
            return STATE;
        }
        int left = heard.worldsLeft();
        if (what == 0) {
            return Integer.bitCount(left);
        }
        if (left == 0) {
            return NONE;
        }
        if (what == 1) {
            return Integer.numberOfTrailingZeros(left);
        }
        return what == 2 ? soInAll(left) : soInSome(left);
    }

    public int next() {
        if (here.lights == 0) {
            return STATE;
        }
        int left = heard.worldsLeft();
        if (left == 0) {
            return NONE;
        }
        int best = NONE;
        int fewest = ALL_WORLDS + 1;
        for (int question = 0; question < 8 * MOST_LIGHTS; question++) {
            if (((tonight.litNow() >> (question / 8)) & 1) == 1) {
                int worst = leftAtWorst(question, left);
                if (worst < fewest) {
                    fewest = worst;
                    best = question;
                }
            }
        }
        return best;
    }

    public int kinds(int light) {
        if (!here.hasLight(light)) {
            return UNKNOWN;
        }
        int can = 0;
        for (int kind = 0; kind < ALL_KINDS; kind++) {
            if (heard.worldsLeftIf(light, kind) != 0) {
                can |= 1 << kind;
            }
        }
        return can;
    }

    public int nights(int breaths, int seed, int what) {
        if (breaths < 1 || breaths > LONGEST_NIGHTS || seed < 0 || what < 0 || what > 2) {
            return OUTSIDE;
        }
        if (here.lights == 0) {
            return STATE;
        }
        dreamtNight.copyFrom(tonight);
        draws.seed = seed;
        int lost = 0;
        int noes = 0;
        for (int gone = 0; gone < breaths; gone++) {
            if (isNoByDraws()) {
                noes++;
            }
            lost += dreamtNight.passBreath();
        }
        if (what == 0) {
            return lost;
        }
        return what == 1 ? noes : draws.seed;
    }

    // ---- what is told of all

    public int image() {
        if (here.lights == 0) {
            return STATE;
        }
        keptNight.copyFrom(tonight);
        keptHeard.copyFrom(heard);
        isKept = true;
        return tonight.breaths;
    }

    public int restore() {
        if (!isKept) {
            return STATE;
        }
        tonight.copyFrom(keptNight);
        heard.copyFrom(keptHeard);
        return tonight.breaths;
    }

    public int count(int what) {
        switch (what) {
            case 0: return here.lights;
            case 1: return here.reach;
            case 2: return here.dark;
            case 3: return Integer.bitCount(tonight.litNow());
            case 4: return tonight.facts;
            case 5: return tonight.ships;
            case 6: return tonight.shipsThatAre(AT_SEA);
            case 7: return tonight.shipsThatAre(LOST);
            case 8: return tonight.breaths;
            case 9: return heard.size;
            case 10: return page.letters;
            case 11: return straitsRead;
            default: return OUTSIDE;
        }
    }

    public long digest() {
        long h = 877;
        for (int light = 0; light < here.lights; light++) {
            for (int what = 0; what < ABOUTS; what++) {
                h = 31 * h + about(light, what);
            }
            h = 31 * h + kinds(light);
        }
        for (int ship = 0; ship < tonight.ships; ship++) {
            for (int what = 0; what < SHIP_ABOUTS; what++) {
                h = 31 * h + shipOf(ship, what);
            }
        }
        if (here.lights > 0) {
            h = 31 * h + atOnce(0);
            h = 31 * h + atOnce(1);
            for (int what = 0; what < 4; what++) {
                h = 31 * h + worlds(what);
            }
            h = 31 * h + next();
        }
        for (int index = 0; index < page.letters; index++) {
            h = 31 * h + page.codes.at(index);
        }
        for (int what = 0; what < COUNTS; what++) {
            h = 31 * h + count(what);
        }
        return h;
    }

    // ---- within

    private static boolean isPlace(int place) {
        return place >= 0 && place < ALL_PLACES;
    }

    private static boolean isFact(int fact) {
        return fact >= 0 && fact < ALL_FACTS;
    }

    private static boolean isOfKind(int kind, int taken) {
        return taken == LIGHT || taken == kind || (taken == LIAR && kind == FOOL);
    }

    private static boolean isTrue(int facts, int fact, boolean turned) {
        boolean isSo = ((facts >> fact) & 1) == 1;
        return isSo != turned;
    }

    /** A saint is taken as a light here: what keeps it from going dark is seen by those who ask it. */
    private static boolean saysYes(int kind, boolean isTrue, int breath) {
        switch (kind) {
            case FIRE: return true;
            case LIAR: return !isTrue;
            case FOOL: return isTrue == (breath % 2 != 0);
            default: return isTrue;
        }
    }

    private static int soInAll(int left) {
        int all = ALL_WORLDS - 1;
        for (int world = 0; world < ALL_WORLDS; world++) {
            if (((left >> world) & 1) == 1) {
                all &= world;
            }
        }
        return all;
    }

    private static int soInSome(int left) {
        int some = 0;
        for (int world = 0; world < ALL_WORLDS; world++) {
            if (((left >> world) & 1) == 1) {
                some |= world;
            }
        }
        return some;
    }

    private int waitOf(int light) {
        dreamtNight.copyFrom(tonight);
        for (int wait = 0; wait <= LONGEST_WAIT; wait++) {
            if (dreamtNight.mayGoDark(light)) {
                return wait;
            }
            dreamtNight.passBreath();
        }
        return NONE;
    }

    /** A question is 8 times the light, twice the fact, 1 more if turned. */
    private int leftAtWorst(int question, int left) {
        int kind = here.kindOf.at(question / 8);
        int fact = (question / 2) % ALL_FACTS;
        boolean turned = question % 2 == 1;
        int yes = 0;
        int no = 0;
        for (int world = 0; world < ALL_WORLDS; world++) {
            if (((left >> world) & 1) == 1) {
                if (saysYes(kind, isTrue(world, fact, turned), tonight.breaths)) {
                    yes++;
                } else {
                    no++;
                }
            }
        }
        return Math.max(yes, no);
    }

    private boolean isNoByDraws() {
        int light = draws.draw(here.lights);
        if (dreamtNight.darkFor.at(light) > 0) {
            return false;
        }
        int fact = draws.draw(ALL_FACTS);
        boolean turned = draws.draw(2) == 1;
        return !dreamtNight.answer(light, fact, turned);
    }

    /** A row of numbers that looks at each index: outside of it all is 0, and nothing is put there. */
    private static final class Row {
        private final int[] cells;

        Row(int length) {
            cells = new int[Math.max(0, length)];
        }

        int at(int index) {
            return index >= 0 && index < cells.length ? cells[index] : 0;
        }

        void put(int index, int value) {
            if (index >= 0 && index < cells.length) {
                cells[index] = value;
            }
        }

        void clear() {
            for (int index = 0; index < cells.length; index++) {
                cells[index] = 0;
            }
        }

        void copyFrom(Row other) {
            for (int index = 0; index < cells.length; index++) {
                cells[index] = other.at(index);
            }
        }

        int bitsBelow(int limit) {
            int bits = 0;
            for (int index = 0; index < cells.length; index++) {
                if (cells[index] < limit) {
                    bits |= 1 << index;
                }
            }
            return bits;
        }
    }

    /** Letters, one behind the other, that may come to be a strait. */
    private static final class Page {
        private final Row codes = new Row(MOST_LETTERS);
        private int letters = 0;

        void write(int code) {
            codes.put(letters, code);
            letters++;
        }

        void wipe() {
            letters = 0;
        }

        int digitAt(int index) {
            return codes.at(index) - '0';
        }

        int firstFault() {
            int mark = NONE;
            for (int index = 0; index < letters; index++) {
                int code = codes.at(index);
                boolean isFit = mark == NONE ? fitsLights(index, code) : fitsEnd(index - mark, code);
                if (!isFit) {
                    return index;
                }
                if (code == ';') {
                    mark = index;
                }
            }
            return letters;
        }

        /** Behind no fault a ';' stands only where the lights end, so there its place tells that all is here. */
        boolean isWhole() {
            return letters >= 3 && codes.at(letters - 3) == ';' && firstFault() == letters;
        }

        private static boolean fitsLights(int index, int code) {
            int lights = (index + 1) / 3;
            switch (index % 3) {
                case 0: return KIND_LETTERS.indexOf((char) code) >= 0;
                case 1: return code >= '0' && code <= '9';
                default: return code == ',' ? lights < MOST_LIGHTS : code == ';' && lights >= 2;
            }
        }

        private static boolean fitsEnd(int behindMark, int code) {
            if (behindMark == 1) {
                return code >= '0' && code <= '9';
            }
            return behindMark == 2 && code >= '1' && code <= '9';
        }
    }

    /** What a page tells and no breath changes; no lights: there is no strait. */
    private static final class Strait {
        private final Row kindOf = new Row(MOST_LIGHTS);
        private final Row placeOf = new Row(MOST_LIGHTS);
        /** By place: the lights that shine there when lit, as bits. */
        private final Row shiningOn = new Row(ALL_PLACES);
        private int lights = 0;
        private int reach = 0;
        private int dark = 0;

        void read(Page page) {
            lights = Math.min(MOST_LIGHTS, (page.letters - 2) / 3);
            reach = page.digitAt(page.letters - 2);
            dark = page.digitAt(page.letters - 1);
            for (int light = 0; light < lights; light++) {
                kindOf.put(light, KIND_LETTERS.indexOf((char) page.codes.at(3 * light)));
                placeOf.put(light, page.digitAt(3 * light + 1));
            }
            for (int place = 0; place < ALL_PLACES; place++) {
                shiningOn.put(place, lightsInReach(place));
            }
        }

        boolean hasLight(int light) {
            return light >= 0 && light < lights;
        }

        private int lightsInReach(int place) {
            int bits = 0;
            for (int light = 0; light < lights; light++) {
                if (Math.abs(placeOf.at(light) - place) <= reach) {
                    bits |= 1 << light;
                }
            }
            return bits;
        }
    }

    /** What goes on from breath to breath: an image keeps it, and a copy tells how it would go on. */
    private static final class Night {
        private final Strait here;
        private final Row placeOf = new Row(MOST_SHIPS);
        private final Row courseOf = new Row(MOST_SHIPS);
        private final Row stateOf = new Row(MOST_SHIPS);
        private final Row darkFor = new Row(MOST_LIGHTS);
        private final Row askedOf = new Row(MOST_LIGHTS);
        private final Row noesOf = new Row(MOST_LIGHTS);
        private int ships = 0;
        private int facts = 0;
        private int breaths = 0;

        Night(Strait here) {
            this.here = here;
        }

        void begin() {
            darkFor.clear();
            askedOf.clear();
            noesOf.clear();
            ships = 0;
            facts = 0;
            breaths = 0;
        }

        void copyFrom(Night other) {
            placeOf.copyFrom(other.placeOf);
            courseOf.copyFrom(other.courseOf);
            stateOf.copyFrom(other.stateOf);
            darkFor.copyFrom(other.darkFor);
            askedOf.copyFrom(other.askedOf);
            noesOf.copyFrom(other.noesOf);
            ships = other.ships;
            facts = other.facts;
            breaths = other.breaths;
        }

        int launch(int place, int course) {
            int ship = ships;
            placeOf.put(ship, place);
            courseOf.put(ship, course);
            stateOf.put(ship, AT_SEA);
            ships++;
            return ship;
        }

        int shipsThatAre(int state) {
            int many = 0;
            for (int ship = 0; ship < ships; ship++) {
                if (stateOf.at(ship) == state) {
                    many++;
                }
            }
            return many;
        }

        int litNow() {
            return darkFor.bitsBelow(1) & ((1 << here.lights) - 1);
        }

        boolean answer(int light, int fact, boolean turned) {
            int kind = here.kindOf.at(light);
            boolean yes = saysYes(kind, isTrue(facts, fact, turned), breaths)
                || (kind == SAINT && !mayGoDark(light));
            askedOf.put(light, askedOf.at(light) + 1);
            if (!yes) {
                noesOf.put(light, noesOf.at(light) + 1);
                darkFor.put(light, here.dark);
            }
            return yes;
        }

        int passBreath() {
            int lit = litNow();
            int lost = 0;
            for (int ship = 0; ship < ships; ship++) {
                if (stateOf.at(ship) == AT_SEA) {
                    sail(ship, lit);
                    if (stateOf.at(ship) == LOST) {
                        lost++;
                    }
                }
            }
            for (int light = 0; light < here.lights; light++) {
                darkFor.put(light, Math.max(0, darkFor.at(light) - 1));
            }
            breaths++;
            return lost;
        }

        private void sail(int ship, int lit) {
            int place = placeOf.at(ship) + courseOf.at(ship);
            if (!isPlace(place)) {
                stateOf.put(ship, THROUGH);
            } else if ((here.shiningOn.at(place) & lit) == 0) {
                stateOf.put(ship, LOST);
            } else {
                placeOf.put(ship, place);
            }
        }

        boolean mayGoDark(int light) {
            return darkFor.at(light) == 0 && lostBy(1 << light) <= lostBy(0);
        }

        int greatestAtOnce() {
            int lit = litNow();
            int bound = lostBy(0);
            int greatest = 0;
            for (int set = 1; set < 1 << MOST_LIGHTS; set++) {
                boolean isGreater = Integer.bitCount(set) > Integer.bitCount(greatest);
                if ((set & ~lit) == 0 && isGreater && lostBy(set) <= bound) {
                    greatest = set;
                }
            }
            return greatest;
        }

        /** How many are lost in the next dark breaths if these all go dark now. */
        private int lostBy(int goingDark) {
            int lost = 0;
            for (int ship = 0; ship < ships; ship++) {
                if (stateOf.at(ship) == AT_SEA && isLostBy(goingDark, ship)) {
                    lost++;
                }
            }
            return lost;
        }

        /** Nobody is asked meanwhile, so a ship's way is told without going it, and no copy is needed. */
        private boolean isLostBy(int goingDark, int ship) {
            int place = placeOf.at(ship);
            for (int gone = 1; gone <= here.dark; gone++) {
                place += courseOf.at(ship);
                if (!isPlace(place)) {
                    return false;
                }
                int lit = darkFor.bitsBelow(gone) & ~goingDark;
                if ((here.shiningOn.at(place) & lit) == 0) {
                    return true;
                }
            }
            return false;
        }
    }

    /** What lights said, and the worlds (a bit for each way that the facts can be) that it leaves. */
    private static final class Heard {
        private final Strait here;
        private final Row lightOf = new Row(MOST_HEARD);
        private final Row factOf = new Row(MOST_HEARD);
        private final Row turnedOf = new Row(MOST_HEARD);
        private final Row breathOf = new Row(MOST_HEARD);
        private final Row yesOf = new Row(MOST_HEARD);
        private int size = 0;

        Heard(Strait here) {
            this.here = here;
        }

        void clear() {
            size = 0;
        }

        void add(int light, int fact, boolean turned, int breath, boolean yes) {
            lightOf.put(size, light);
            factOf.put(size, fact);
            turnedOf.put(size, turned ? 1 : 0);
            breathOf.put(size, breath);
            yesOf.put(size, yes ? 1 : 0);
            size++;
        }

        void copyFrom(Heard other) {
            lightOf.copyFrom(other.lightOf);
            factOf.copyFrom(other.factOf);
            turnedOf.copyFrom(other.turnedOf);
            breathOf.copyFrom(other.breathOf);
            yesOf.copyFrom(other.yesOf);
            size = other.size;
        }

        int worldsLeft() {
            return worldsLeftIf(NONE, LIGHT);
        }

        /** As if one light were of another kind. */
        int worldsLeftIf(int light, int kind) {
            int left = 0;
            for (int world = 0; world < ALL_WORLDS; world++) {
                if (isSaidIn(world, light, kind)) {
                    left |= 1 << world;
                }
            }
            return left;
        }

        private boolean isSaidIn(int world, int light, int kind) {
            for (int index = 0; index < size; index++) {
                int speaker = lightOf.at(index);
                if (!wouldSay(index, speaker == light ? kind : here.kindOf.at(speaker), world)) {
                    return false;
                }
            }
            return true;
        }

        private boolean wouldSay(int index, int kind, int world) {
            boolean yes = yesOf.at(index) == 1;
            if (kind == SAINT && yes) {
                return true;
            }
            boolean isTrue = isTrue(world, factOf.at(index), turnedOf.at(index) == 1);
            return saysYes(kind, isTrue, breathOf.at(index)) == yes;
        }
    }

    /** Numbers by a seed. */
    private static final class Draws {
        private int seed = 0;

        int draw(int bound) {
            seed = (int) ((1103515245L * seed + 12345L) & 0x7fffffffL);
            return bound > 0 ? (seed / 65536) % bound : 0;
        }
    }
}
