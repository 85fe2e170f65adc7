import java.util.ArrayList;
import java.util.List;
import java.util.regex.Pattern;

/**
 * A second reading of the document, as plain as can be and of another build than the class: texts by patterns,
 * objects that are copied, and each breath gone step by step. It is slow, and only for tests.
 */
final class Model {
    static final int NONE = -1, UNKNOWN = -101, OUTSIDE = -102, STATE = -103, FULL = -104;

    /** A light of some kind, and how it is. */
    static final class Lamp {
        char kind;
        int place;
        int dark;
        int asked;
        int noes;

        Lamp copy() {
            Lamp l = new Lamp();
            l.kind = kind;
            l.place = place;
            l.dark = dark;
            l.asked = asked;
            l.noes = noes;
            return l;
        }
    }

    static final class Vessel {
        int place;
        int course;
        int how;

        Vessel copy() {
            Vessel v = new Vessel();
            v.place = place;
            v.course = course;
            v.how = how;
            return v;
        }
    }

    record Said(int light, int fact, boolean turned, int breath, boolean yes) { }

    static final class Sea {
        List<Lamp> lamps = new ArrayList<>();
        List<Vessel> vessels = new ArrayList<>();
        boolean[] facts = new boolean[4];
        List<Said> said = new ArrayList<>();
        int reach;
        int dark;
        int breath;

        Sea copy() {
            Sea s = new Sea();
            for (Lamp l : lamps) {
                s.lamps.add(l.copy());
            }
            for (Vessel v : vessels) {
                s.vessels.add(v.copy());
            }
            s.facts = facts.clone();
            s.said = new ArrayList<>(said);
            s.reach = reach;
            s.dark = dark;
            s.breath = breath;
            return s;
        }

        int shining(int place) {
            int n = 0;
            for (Lamp l : lamps) {
                if (l.dark == 0 && place >= l.place - reach && place <= l.place + reach) {
                    n++;
                }
            }
            return n;
        }

        int breathe() {
            breath++;
            int lost = 0;
            for (Vessel v : vessels) {
                if (v.how != 0) {
                    continue;
                }
                int to = v.place + v.course;
                if (to < 0 || to > 9) {
                    v.how = 1;
                } else if (shining(to) == 0) {
                    v.how = 2;
                    lost++;
                } else {
                    v.place = to;
                }
            }
            for (Lamp l : lamps) {
                if (l.dark > 0) {
                    l.dark--;
                }
            }
            return lost;
        }

        int lostIf(int set) {
            Sea s = copy();
            for (int i = 0; i < lamps.size(); i++) {
                if ((set & (1 << i)) != 0) {
                    s.lamps.get(i).dark = dark;
                }
            }
            int lost = 0;
            for (int i = 0; i < dark; i++) {
                lost += s.breathe();
            }
            return lost;
        }

        boolean may(int light) {
            return lamps.get(light).dark == 0 && lostIf(1 << light) <= lostIf(0);
        }

        boolean ask(int light, int fact, boolean turned) {
            Lamp l = lamps.get(light);
            boolean right = turned ? !facts[fact] : facts[fact];
            boolean yes = says(l.kind, right, breath);
            if (l.kind == 's' && !yes && !may(light)) {
                yes = true;
            }
            l.asked++;
            if (!yes) {
                l.noes++;
                l.dark = dark;
            }
            return yes;
        }
    }

    static boolean says(char kind, boolean right, int breath) {
        if (kind == 'f') {
            return true;
        }
        boolean lies = kind == 'i' || (kind == 'o' && breath % 2 == 0);
        return lies ? !right : right;
    }

    private String page = "";
    private Sea sea = null;
    private Sea kept = null;
    private int read = 0;

    int letter(int code) {
        if (code < 1 || code > 126) {
            return OUTSIDE;
        }
        if (page.length() == 18) {
            return FULL;
        }
        page += (char) code;
        return page.length();
    }

    int blank() {
        int n = page.length();
        page = "";
        return n;
    }

    private static final Pattern WHOLE = Pattern.compile("[lfsio][0-9](,[lfsio][0-9]){1,4};[0-9][1-9]");

    /** Whether some strait begins so: one of these ends makes it whole. */
    private static boolean begins(String text) {
        String[] ends = {"", "1", "11", ";11", "1;11", "l1;11", ",l1;11", "1,l1;11"};
        for (String end : ends) {
            if (WHOLE.matcher(text + end).matches()) {
                return true;
            }
        }
        return text.isEmpty();
    }

    int fault() {
        int n = 0;
        while (n < page.length() && begins(page.substring(0, n + 1))) {
            n++;
        }
        return n;
    }

    int strait() {
        if (!WHOLE.matcher(page).matches()) {
            return STATE;
        }
        String[] halves = page.split(";");
        sea = new Sea();
        for (String one : halves[0].split(",")) {
            Lamp l = new Lamp();
            l.kind = one.charAt(0);
            l.place = Integer.parseInt(one.substring(1));
            sea.lamps.add(l);
        }
        sea.reach = halves[1].charAt(0) - '0';
        sea.dark = halves[1].charAt(1) - '0';
        page = "";
        kept = null;
        read++;
        return sea.lamps.size();
    }

    private int lights() {
        return sea == null ? 0 : sea.lamps.size();
    }

    private boolean noLight(int light) {
        return light < 0 || light >= lights();
    }

    int about(int light, int what) {
        if (noLight(light)) {
            return UNKNOWN;
        }
        Lamp l = sea.lamps.get(light);
        return switch (what) {
            case 0 -> "lfsio".indexOf(l.kind);
            case 1 -> l.place;
            case 2 -> l.dark;
            case 3 -> sea.may(light) ? 1 : 0;
            case 4 -> when(light);
            case 5 -> l.asked;
            case 6 -> l.noes;
            default -> OUTSIDE;
        };
    }

    private int when(int light) {
        Sea s = sea.copy();
        for (int n = 0; n <= 30; n++) {
            if (s.may(light)) {
                return n;
            }
            s.breathe();
        }
        return NONE;
    }

    int as(int light, int kind) {
        if (noLight(light)) {
            return UNKNOWN;
        }
        if (kind < 0 || kind > 4) {
            return OUTSIDE;
        }
        String taken = switch (sea.lamps.get(light).kind) {
            case 'l' -> "0";
            case 'f' -> "01";
            case 's' -> "02";
            case 'i' -> "03";
            default -> "034";
        };
        return taken.contains(String.valueOf(kind)) ? light : NONE;
    }

    int fact(int fact, boolean is) {
        if (fact < 0 || fact > 3) {
            return UNKNOWN;
        }
        if (sea == null) {
            return STATE;
        }
        boolean was = sea.facts[fact];
        sea.facts[fact] = is;
        return was ? 1 : 0;
    }

    int ship(int place, int course) {
        if (place < 0 || place > 9) {
            return UNKNOWN;
        }
        if (course != -1 && course != 0 && course != 1) {
            return OUTSIDE;
        }
        if (sea == null) {
            return STATE;
        }
        if (sea.vessels.size() == 3) {
            return FULL;
        }
        Vessel v = new Vessel();
        v.place = place;
        v.course = course;
        sea.vessels.add(v);
        return sea.vessels.size() - 1;
    }

    int shipOf(int ship, int what) {
        if (sea == null || ship < 0 || ship >= sea.vessels.size()) {
            return UNKNOWN;
        }
        Vessel v = sea.vessels.get(ship);
        return switch (what) {
            case 0 -> v.place;
            case 1 -> v.course + 1;
            case 2 -> v.how;
            case 3 -> sea.shining(v.place);
            default -> OUTSIDE;
        };
    }

    int ask(int light, int fact, boolean turned) {
        if (noLight(light) || fact < 0 || fact > 3) {
            return UNKNOWN;
        }
        if (sea.lamps.get(light).dark > 0) {
            return STATE;
        }
        return sea.ask(light, fact, turned) ? 1 : 0;
    }

    int breath() {
        return sea == null ? STATE : sea.breathe();
    }

    int atOnce(int what) {
        if (what != 0 && what != 1) {
            return OUTSIDE;
        }
        if (sea == null) {
            return STATE;
        }
        for (int many = lights(); many > 0; many--) {
            for (int set = 0; set < 32; set++) {
                if (Integer.bitCount(set) == many && allLit(set) && sea.lostIf(set) <= sea.lostIf(0)) {
                    return what == 0 ? many : set;
                }
            }
        }
        return 0;
    }

    private boolean allLit(int set) {
        for (int i = 0; i < 5; i++) {
            if ((set & (1 << i)) != 0 && (noLight(i) || sea.lamps.get(i).dark > 0)) {
                return false;
            }
        }
        return true;
    }

    int hear(int light, int fact, boolean turned, int breath, boolean yes) {
        if (noLight(light) || fact < 0 || fact > 3) {
            return UNKNOWN;
        }
        if (breath < 0 || breath > 99) {
            return OUTSIDE;
        }
        if (sea.said.size() == 8) {
            return FULL;
        }
        sea.said.add(new Said(light, fact, turned, breath, yes));
        return sea.said.size();
    }

    int forget() {
        if (sea == null) {
            return 0;
        }
        int n = sea.said.size();
        sea.said.clear();
        return n;
    }

    private List<Integer> possible(Sea s) {
        List<Integer> list = new ArrayList<>();
        for (int world = 0; world < 16; world++) {
            boolean fits = true;
            for (Said heard : s.said) {
                boolean so = (world & (1 << heard.fact)) != 0;
                char kind = s.lamps.get(heard.light).kind;
                boolean free = kind == 's' && heard.yes;
                fits &= free || says(kind, so ^ heard.turned, heard.breath) == heard.yes;
            }
            if (fits) {
                list.add(world);
            }
        }
        return list;
    }

    int worlds(int what) {
        if (what < 0 || what > 3) {
            return OUTSIDE;
        }
        if (sea == null) {
            return STATE;
        }
        List<Integer> list = possible(sea);
        if (what == 0) {
            return list.size();
        }
        if (list.isEmpty()) {
            return NONE;
        }
        int all = 15;
        int some = 0;
        for (int world : list) {
            all &= world;
            some |= world;
        }
        return what == 1 ? list.get(0) : what == 2 ? all : some;
    }

    int next() {
        if (sea == null) {
            return STATE;
        }
        List<Integer> list = possible(sea);
        int best = NONE;
        int least = Integer.MAX_VALUE;
        for (int light = 0; light < lights() && !list.isEmpty(); light++) {
            for (int fact = 0; fact < 4; fact++) {
                for (int turned = 0; turned < 2; turned++) {
                    int yes = 0;
                    for (int world : list) {
                        boolean right = ((world >> fact) & 1) != turned;
                        yes += says(sea.lamps.get(light).kind, right, sea.breath) ? 1 : 0;
                    }
                    int worst = Math.max(yes, list.size() - yes);
                    if (sea.lamps.get(light).dark == 0 && worst < least) {
                        least = worst;
                        best = 8 * light + 2 * fact + turned;
                    }
                }
            }
        }
        return best;
    }

    int kinds(int light) {
        if (noLight(light)) {
            return UNKNOWN;
        }
        int bits = 0;
        for (int kind = 0; kind < 5; kind++) {
            Sea s = sea.copy();
            s.lamps.get(light).kind = "lfsio".charAt(kind);
            bits += possible(s).isEmpty() ? 0 : 1 << kind;
        }
        return bits;
    }

    private long seed;

    private int draw(int n) {
        seed = (1103515245L * seed + 12345L) % 2147483648L;
        return (int) (seed / 65536 % n);
    }

    int nights(int breaths, int from, int what) {
        if (breaths < 1 || breaths > 40 || from < 0 || what < 0 || what > 2) {
            return OUTSIDE;
        }
        if (sea == null) {
            return STATE;
        }
        Sea s = sea.copy();
        seed = from;
        int lost = 0;
        int noes = 0;
        for (int i = 0; i < breaths; i++) {
            int light = draw(lights());
            if (s.lamps.get(light).dark == 0) {
                int fact = draw(4);
                boolean turned = draw(2) == 1;
                noes += s.ask(light, fact, turned) ? 0 : 1;
            }
            lost += s.breathe();
        }
        return what == 0 ? lost : what == 1 ? noes : (int) seed;
    }

    int image() {
        if (sea == null) {
            return STATE;
        }
        kept = sea.copy();
        return sea.breath;
    }

    int restore() {
        if (kept == null) {
            return STATE;
        }
        sea = kept.copy();
        return sea.breath;
    }

    int count(int what) {
        if (what < 0 || what > 11) {
            return OUTSIDE;
        }
        if (what == 10 || what == 11) {
            return what == 10 ? page.length() : read;
        }
        if (sea == null) {
            return 0;
        }
        return switch (what) {
            case 0 -> lights();
            case 1 -> sea.reach;
            case 2 -> sea.dark;
            case 3 -> (int) sea.lamps.stream().filter(l -> l.dark == 0).count();
            case 4 -> (sea.facts[0] ? 1 : 0) + (sea.facts[1] ? 2 : 0) + (sea.facts[2] ? 4 : 0) + (sea.facts[3] ? 8 : 0);
            case 5 -> sea.vessels.size();
            case 6 -> (int) sea.vessels.stream().filter(v -> v.how == 0).count();
            case 7 -> (int) sea.vessels.stream().filter(v -> v.how == 2).count();
            case 8 -> sea.breath;
            default -> sea.said.size();
        };
    }

    long digest() {
        List<Integer> all = new ArrayList<>();
        for (int light = 0; light < lights(); light++) {
            for (int what = 0; what <= 6; what++) {
                all.add(about(light, what));
            }
            all.add(kinds(light));
        }
        for (int ship = 0; ship < count(5); ship++) {
            for (int what = 0; what <= 3; what++) {
                all.add(shipOf(ship, what));
            }
        }
        if (sea != null) {
            all.add(atOnce(0));
            all.add(atOnce(1));
            for (int what = 0; what <= 3; what++) {
                all.add(worlds(what));
            }
            all.add(next());
        }
        page.chars().forEach(all::add);
        for (int what = 0; what <= 11; what++) {
            all.add(count(what));
        }
        long h = 877;
        for (int one : all) {
            h = 31 * h + one;
        }
        return h;
    }
}
